def wd_X9_boughtIn (cs : Nat → ClassId) (a_t a_t_text a_t_opinions a_t_lines a_t_draftBook a_t_scribes a_t_turn a_t_bent a_t_need a_t_now a_t_isKept a_t_far a_t_marginOf a_t_marginSays : Nat) (v_t_trace : Int64) (v_t_typed : Int32) (v_t_needTold : Int32) (v_t_at : Int32) (v_t_start : Int32) (v_t_sort : Int32) (v_t_value : Int32) (v_t_fault : Int32) (v_t_target : Int32) (v_t_went : Int32) (v_t_ender : Int32) (v_t_had : Int32) (v_t_margins : Int32) (g_t_scribes : Nat → Int32) (g_t_now : Nat → Int32) : va_W := [(a_t, .inr (9, [.long v_t_trace, .ref a_t_text, .int v_t_typed, .ref a_t_opinions, .ref a_t_lines, .ref a_t_draftBook, .ref a_t_scribes, .ref a_t_turn, .ref a_t_bent, .ref a_t_need, .int v_t_needTold, .int v_t_at, .int v_t_start, .int v_t_sort, .int v_t_value, .int v_t_fault, .ref a_t_now, .ref a_t_isKept, .int v_t_target, .int v_t_went, .int v_t_ender, .int v_t_had, .ref a_t_far, .ref a_t_marginOf, .ref a_t_marginSays, .int v_t_margins])), (a_t_scribes, .inl (cs 0, 2, .inl g_t_scribes)), (a_t_now, .inl (cs 0, 300, .inl g_t_now))]
def rm_X9_boughtIn : Room := { frames := 0, cells := 0, slots := 0, locals := 0 }
theorem mI_X9_boughtIn : MI yX9_boughtIn RX9 cX9_boughtIn 1 (some .int) 0 := ⟨gI_X9_boughtIn, gE_X9_boughtIn, gN_X9, gC_X9_boughtIn, by decide +kernel⟩
set_option maxHeartbeats 4000000 in
set_option maxRecDepth 100000 in
theorem k_X9_boughtIn (l : Launch) (G : va_G) (cs : Nat → ClassId) (a_t a_t_text a_t_opinions a_t_lines a_t_draftBook a_t_scribes a_t_turn a_t_bent a_t_need a_t_now a_t_isKept a_t_far a_t_marginOf a_t_marginSays : Nat) (v_t_trace : Int64) (v_t_typed : Int32) (v_t_needTold : Int32) (v_t_at : Int32) (v_t_start : Int32) (v_t_sort : Int32) (v_t_value : Int32) (v_t_fault : Int32) (v_t_target : Int32) (v_t_went : Int32) (v_t_ender : Int32) (v_t_had : Int32) (v_t_margins : Int32) (g_t_scribes : Nat → Int32) (g_t_now : Nat → Int32) (R0 : Int32) (hB : f_X9_boughtIn g_t_scribes g_t_now = some R0) : Met l yX9_boughtIn (.code yX9_boughtIn cX9_boughtIn 1 (some .int) :: GW) rm_X9_boughtIn (PcR G cs [.ref a_t] (wd_X9_boughtIn cs a_t a_t_text a_t_opinions a_t_lines a_t_draftBook a_t_scribes a_t_turn a_t_bent a_t_need a_t_now a_t_isKept a_t_far a_t_marginOf a_t_marginSays v_t_trace v_t_typed v_t_needTold v_t_at v_t_start v_t_sort v_t_value v_t_fault v_t_target v_t_went v_t_ender v_t_had v_t_margins g_t_scribes g_t_now)) (vp_Si (fun r => r = R0)) 0 0 (fun _ => False) := by
  refine Met.ofW (cc := cX9_boughtIn) (maxL := 1) (ret := (some .int)) (by decide) rfl ?_
  intro p e s m args below meth c s₁ B hml hv
  obtain ⟨rfl, hP, hK, hN⟩ := hv
  have hx := B.exec
  have hb := B.bytes
  have hr := B.returns
  have hts := atoms_spec (ws := .code yX9_boughtIn cX9_boughtIn 1 (some .int) :: GW) B.pre
  have hg : ∀ w ∈ GW, w.before _ s = true := fun w h => hts w (List.mem_cons_of_mem _ h)
  have hown : s.vm.findClass RX9 = some m.cls := findClass_of_methodNamed B.named
  have hlocks := B.notSynchronized
  have hl := lv_entry ([.ref a_t]) (n := 1) (Nat.le_of_ble_eq_true rfl)
  rw [lg_entry_eq]
  generalize (lg_sl ([.ref a_t]) ++ List.replicate (1 - (lg_sl ([.ref a_t])).length) Slot.unset).toArray = ls at hl ⊢
  have hl : lv_has ls 1 [(0, .ref a_t)] := hl
  obtain ⟨y, hB, hK0⟩ : ∃ y, f_X9_boughtIn g_t_scribes g_t_now = some y ∧ KEnd R0 y := ⟨R0, hB, rfl⟩
  have hKT := hK
  have hK := hK0
  show W p l e rm_X9_boughtIn s m ([.ref a_t] : List Value).toArray below meth c s.heap [] 0 0 (MQ below (vp_Si (fun r => r = R0)) ([.ref a_t] : List Value).toArray s 0 0 (fun _ => False)) (F0 m 0 ls [])
  refine lv_iconst (v := 1) hx hb dX9_boughtIn_0 (by decide) ?_
  refine lv_aload_n hx hb dX9_boughtIn_1 rfl (lv_at hl 0 rfl) ?_
  refine va_get (D := G) (ci := 9) (v := .ref a_t_scribes) (C := RX9) (T := TX9) (N := 26) hx hb hg inX9 hown hKT hP 0 rfl rfl 6 (by decide) (hg _ gF_X9_23) (fun _ h9 => h9) rfl dX9_boughtIn_2 ?_
  refine lv_iconst (v := 0) hx hb dX9_boughtIn_5 (by decide) ?_
  refine va_iald hx hb hKT hP 1 0 rfl rfl (vinC (by decide)) dX9_boughtIn_6 ?_
  refine lj_ishl hx hb dX9_boughtIn_7 ?_
  refine lv_iconst (v := 1) hx hb dX9_boughtIn_8 (by decide) ?_
  refine lv_isub hx hb dX9_boughtIn_9 ?_
  refine lv_aload_n hx hb dX9_boughtIn_10 rfl (lv_at hl 0 rfl) ?_
  refine va_get (D := G) (ci := 9) (v := .ref a_t_now) (C := RX9) (T := TX9) (N := 26) hx hb hg inX9 hown hKT hP 0 rfl rfl 16 (by decide) (hg _ gF_X9_35) (fun _ h9 => h9) rfl dX9_boughtIn_11 ?_
  refine lv_bipush (v := 8) hx hb dX9_boughtIn_14 (by decide) ?_
  refine va_iald hx hb hKT hP 2 0 rfl rfl (vinC (by decide)) dX9_boughtIn_16 ?_
  refine lv_iconst (v := -1) hx hb dX9_boughtIn_17 (by decide) ?_
  refine lv_ixor hx hb dX9_boughtIn_18 ?_
  refine lv_iand hx hb dX9_boughtIn_19 ?_
  have hK := leafK hB hK
  have hK : (((jshl (1 : Int32) (g_t_scribes (0 : Int32).toNatClampNeg)) - (1 : Int32)) &&& ((g_t_now (8 : Int32).toNatClampNeg) ^^^ (-1 : Int32))) = R0 := hK
  subst hK
  exact W.iret (v := ((jshl (1 : Int32) (g_t_scribes (0 : Int32).toNatClampNeg)) - (1 : Int32)) &&& ((g_t_now (8 : Int32).toNatClampNeg) ^^^ (-1 : Int32))) hx hb hr (fun t ht hW => ⟨_, rfl, rfl, ht⟩) (fun _ h => by cases h) dX9_boughtIn_20
def wd_X9_behind (cs : Nat → ClassId) (a_t a_t_text a_t_opinions a_t_lines a_t_draftBook a_t_scribes a_t_turn a_t_bent a_t_need a_t_now a_t_isKept a_t_far a_t_marginOf a_t_marginSays : Nat) (v_t_trace : Int64) (v_t_typed : Int32) (v_t_needTold : Int32) (v_t_at : Int32) (v_t_start : Int32) (v_t_sort : Int32) (v_t_value : Int32) (v_t_fault : Int32) (v_t_target : Int32) (v_t_went : Int32) (v_t_ender : Int32) (v_t_had : Int32) (v_t_margins : Int32) (g_t_opinions : Nat → Int32) (g_t_lines : Nat → Int32) (g_t_scribes : Nat → Int32) (g_t_turn : Nat → Int32) (g_t_bent : Nat → Int32) (g_t_need : Nat → Int32) (g_t_now : Nat → Int32) : va_W := [(a_t, .inr (9, [.long v_t_trace, .ref a_t_text, .int v_t_typed, .ref a_t_opinions, .ref a_t_lines, .ref a_t_draftBook, .ref a_t_scribes, .ref a_t_turn, .ref a_t_bent, .ref a_t_need, .int v_t_needTold, .int v_t_at, .int v_t_start, .int v_t_sort, .int v_t_value, .int v_t_fault, .ref a_t_now, .ref a_t_isKept, .int v_t_target, .int v_t_went, .int v_t_ender, .int v_t_had, .ref a_t_far, .ref a_t_marginOf, .ref a_t_marginSays, .int v_t_margins])), (a_t_opinions, .inl (cs 0, 2, .inl g_t_opinions)), (a_t_lines, .inl (cs 0, 2, .inl g_t_lines)), (a_t_scribes, .inl (cs 0, 2, .inl g_t_scribes)), (a_t_turn, .inl (cs 0, 12, .inl g_t_turn)), (a_t_bent, .inl (cs 0, 12, .inl g_t_bent)), (a_t_need, .inl (cs 0, 2, .inl g_t_need)), (a_t_now, .inl (cs 0, 300, .inl g_t_now))]
def rm_X9_behind : Room := { frames := 4, cells := 0, slots := 0, locals := 94 }
theorem mI_X9_behind : MI yX9_behind RX9 cX9_behind 3 (some .int) 2 := ⟨gI_X9_behind, gE_X9_behind, gN_X9, gC_X9_behind, by decide +kernel⟩
set_option maxHeartbeats 4000000 in
set_option maxRecDepth 100000 in
theorem k_X9_behind (l : Launch) (G : va_G) (cs : Nat → ClassId) (a_t a_t_text a_t_opinions a_t_lines a_t_draftBook a_t_scribes a_t_turn a_t_bent a_t_need a_t_now a_t_isKept a_t_far a_t_marginOf a_t_marginSays : Nat) (v_t_trace : Int64) (v_t_typed : Int32) (v_t_needTold : Int32) (v_t_at : Int32) (v_t_start : Int32) (v_t_sort : Int32) (v_t_value : Int32) (v_t_fault : Int32) (v_t_target : Int32) (v_t_went : Int32) (v_t_ender : Int32) (v_t_had : Int32) (v_t_margins : Int32) (g_t_opinions : Nat → Int32) (g_t_lines : Nat → Int32) (g_t_scribes : Nat → Int32) (g_t_turn : Nat → Int32) (g_t_bent : Nat → Int32) (g_t_need : Nat → Int32) (g_t_now : Nat → Int32) (p1 p2 : Int32) (sz : Nat) (R0 : Int32 × Int32 × Int32 × Int32) (hB : f_X9_behind v_t_went v_t_ender v_t_had g_t_opinions g_t_lines g_t_scribes g_t_turn g_t_bent g_t_need g_t_now p1 p2 = some R0) : Met l yX9_behind (.code yX9_behind cX9_behind 3 (some .int) :: GW) rm_X9_behind (PcW G cs [.ref a_t, .int p1, .int p2] (wd_X9_behind cs a_t a_t_text a_t_opinions a_t_lines a_t_draftBook a_t_scribes a_t_turn a_t_bent a_t_need a_t_now a_t_isKept a_t_far a_t_marginOf a_t_marginSays v_t_trace v_t_typed v_t_needTold v_t_at v_t_start v_t_sort v_t_value v_t_fault v_t_target v_t_went v_t_ender v_t_had v_t_margins g_t_opinions g_t_lines g_t_scribes g_t_turn g_t_bent g_t_need g_t_now) sz) (QcI G (va_A (wd_X9_behind cs a_t a_t_text a_t_opinions a_t_lines a_t_draftBook a_t_scribes a_t_turn a_t_bent a_t_need a_t_now a_t_isKept a_t_far a_t_marginOf a_t_marginSays v_t_trace v_t_typed v_t_needTold v_t_at v_t_start v_t_sort v_t_value v_t_fault v_t_target v_t_went v_t_ender v_t_had v_t_margins g_t_opinions g_t_lines g_t_scribes g_t_turn g_t_bent g_t_need g_t_now) sz) (wd_X9_behind cs a_t a_t_text a_t_opinions a_t_lines a_t_draftBook a_t_scribes a_t_turn a_t_bent a_t_need a_t_now a_t_isKept a_t_far a_t_marginOf a_t_marginSays v_t_trace v_t_typed v_t_needTold v_t_at v_t_start v_t_sort v_t_value v_t_fault v_t_target R0.2.1 R0.2.2.1 R0.2.2.2 v_t_margins g_t_opinions g_t_lines g_t_scribes g_t_turn g_t_bent g_t_need g_t_now) R0.1) 0 0 (va_A (wd_X9_behind cs a_t a_t_text a_t_opinions a_t_lines a_t_draftBook a_t_scribes a_t_turn a_t_bent a_t_need a_t_now a_t_isKept a_t_far a_t_marginOf a_t_marginSays v_t_trace v_t_typed v_t_needTold v_t_at v_t_start v_t_sort v_t_value v_t_fault v_t_target v_t_went v_t_ender v_t_had v_t_margins g_t_opinions g_t_lines g_t_scribes g_t_turn g_t_bent g_t_need g_t_now) sz) := by
  refine Met.ofW (cc := cX9_behind) (maxL := 3) (ret := (some .int)) (by decide) rfl ?_
  intro p e s m args below meth c s₁ B hml hv
  obtain ⟨rfl, hsz, hP, hD0, hK, hN⟩ := hv
  have hx := B.exec
  have hb := B.bytes
  have hr := B.returns
  have hts := atoms_spec (ws := .code yX9_behind cX9_behind 3 (some .int) :: GW) B.pre
  have hg : ∀ w ∈ GW, w.before _ s = true := fun w h => hts w (List.mem_cons_of_mem _ h)
  have hown : s.vm.findClass RX9 = some m.cls := findClass_of_methodNamed B.named
  have hlocks := B.notSynchronized
  subst hsz
  have hD := hD0.self (sz := s.heap.size)
  generalize hAe : va_A (wd_X9_behind cs a_t a_t_text a_t_opinions a_t_lines a_t_draftBook a_t_scribes a_t_turn a_t_bent a_t_need a_t_now a_t_isKept a_t_far a_t_marginOf a_t_marginSays v_t_trace v_t_typed v_t_needTold v_t_at v_t_start v_t_sort v_t_value v_t_fault v_t_target v_t_went v_t_ender v_t_had v_t_margins g_t_opinions g_t_lines g_t_scribes g_t_turn g_t_bent g_t_need g_t_now) s.heap.size = A at hD ⊢
  have hA : ∀ q : Nat, s.heap.size ≤ q → A q := fun q h => by rw [← hAe]; exact Or.inr h
  have hS : va_S A s.heap s.heap [] := va_S.rf
  have hl := lv_entry ([.ref a_t, .int p1, .int p2]) (n := 3) (Nat.le_of_ble_eq_true rfl)
  rw [lg_entry_eq]
  generalize (lg_sl ([.ref a_t, .int p1, .int p2]) ++ List.replicate (3 - (lg_sl ([.ref a_t, .int p1, .int p2])).length) Slot.unset).toArray = ls at hl ⊢
  have hl : lv_has ls 3 [(0, .ref a_t), (1, .int p1), (2, .int p2)] := hl
  obtain ⟨y, hB, hK0⟩ : ∃ y, f_X9_behind v_t_went v_t_ender v_t_had g_t_opinions g_t_lines g_t_scribes g_t_turn g_t_bent g_t_need g_t_now p1 p2 = some y ∧ KEnd R0 y := ⟨R0, hB, rfl⟩
  have hKT := hK
  have hK := hK0
  obtain ⟨H, hHe⟩ : ∃ H, H = s.heap := ⟨_, rfl⟩
  obtain ⟨locs, hLe⟩ : ∃ L : List Loc, L = [] := ⟨_, rfl⟩
  rw [← hHe] at hP
  have hS : va_S A s.heap H locs := by rw [hHe, hLe]; exact hS
  show W p l e rm_X9_behind s m ([.ref a_t, .int p1, .int p2] : List Value).toArray below meth c s.heap [] 0 0 _ _
  suffices hgo : W p l e rm_X9_behind s m ([.ref a_t, .int p1, .int p2] : List Value).toArray below meth c H locs 0 0 (MQ below (QcI G A (wd_X9_behind cs a_t a_t_text a_t_opinions a_t_lines a_t_draftBook a_t_scribes a_t_turn a_t_bent a_t_need a_t_now a_t_isKept a_t_far a_t_marginOf a_t_marginSays v_t_trace v_t_typed v_t_needTold v_t_at v_t_start v_t_sort v_t_value v_t_fault v_t_target R0.2.1 R0.2.2.1 R0.2.2.2 v_t_margins g_t_opinions g_t_lines g_t_scribes g_t_turn g_t_bent g_t_need g_t_now) R0.1) ([.ref a_t, .int p1, .int p2] : List Value).toArray s 0 0 A) (F0 m 0 ls []) by rw [hHe, hLe] at hgo; exact hgo
  refine lv_iload_n hx hb dX9_behind_0 rfl (lv_at hl 1 rfl) ?_
  refine lv_iconst (v := 0) hx hb dX9_behind_1 (by decide) ?_
  refine lv_bipush (v := 99) hx hb dX9_behind_2 (by decide) ?_
  obtain ⟨q1, hq1, hB⟩ := bnd hB
  refine kr_S (WC := wd_X9_in cs ) (As := [.int p1, .int (0 : Int32), .int (99 : Int32)]) (rest := []) (r0 := q1) ⟨hx, hb, hml, hown, hg⟩ (k_X9_in l G cs p1 (0 : Int32) (99 : Int32) q1 hq1) gM_X9_57 mS_X9_in (rmk rfl) hP hKT hN [] rfl rfl hl.1 rfl (Nat.le_of_ble_eq_true rfl) dX9_behind_4 ?_
  refine lv_if_eq (tgt := 18) hx hb dX9_behind_7 (by decide) (fun c_2 => ?_) (fun c_2 => ?_)
  · have hB := ifP c_2 hB
    refine lv_iconst (v := -1) hx hb dX9_behind_18 (by decide) ?_
    have hK := leafK hB hK
    have hK : ((-1 : Int32), v_t_went, v_t_ender, v_t_had) = R0 := hK
    subst hK
    exact W.iret (v := (-1 : Int32)) hx hb hr (fun t ht hW => ⟨⟨_, (), rfl, rfl, by rw [ht]; exact hP, hD⟩, hS.F ht⟩) hS.2.2 dX9_behind_19
  · have hB := ifN c_2 hB
    refine lv_aload_n hx hb dX9_behind_10 rfl (lv_at hl 0 rfl) ?_
    refine lv_iload_n hx hb dX9_behind_11 rfl (lv_at hl 2 rfl) ?_
    obtain ⟨q3, hq3, hB⟩ := bnd hB
    refine kr_V (WC := wd_X9_isLine cs a_t a_t_text a_t_opinions a_t_lines a_t_draftBook a_t_scribes a_t_turn a_t_bent a_t_need a_t_now a_t_isKept a_t_far a_t_marginOf a_t_marginSays v_t_trace v_t_typed v_t_needTold v_t_at v_t_start v_t_sort v_t_value v_t_fault v_t_target v_t_went v_t_ender v_t_had v_t_margins g_t_lines) (As := [.int p2]) (rest := []) (r0 := q3) ⟨hx, hb, hml, hown, hg⟩ (k_X9_isLine l G cs a_t a_t_text a_t_opinions a_t_lines a_t_draftBook a_t_scribes a_t_turn a_t_bent a_t_need a_t_now a_t_isKept a_t_far a_t_marginOf a_t_marginSays v_t_trace v_t_typed v_t_needTold v_t_at v_t_start v_t_sort v_t_value v_t_fault v_t_target v_t_went v_t_ender v_t_had v_t_margins g_t_lines p2 q3 hq3) gM_X9_129 mI_X9_isLine (rmk rfl) hP hKT hN 0 rfl rfl [0, 2] rfl rfl hl.1 rfl (Nat.le_of_ble_eq_true rfl) dX9_behind_12 ?_
    refine lv_if_ne (tgt := 20) hx hb dX9_behind_15 (by decide) (fun c_4 => ?_) (fun c_4 => ?_)
    · have hB := ifN c_4 hB
      refine lv_aload_n hx hb dX9_behind_20 rfl (lv_at hl 0 rfl) ?_
      refine lv_aload_n hx hb dX9_behind_21 rfl (lv_at hl 0 rfl) ?_
      refine va_get (D := G) (ci := 9) (v := .ref a_t_now) (C := RX9) (T := TX9) (N := 26) hx hb hg inX9 hown hKT hP 0 rfl rfl 16 (by decide) (hg _ gF_X9_35) (fun _ h9 => h9) rfl dX9_behind_22 ?_
      refine lv_iconst (v := 0) hx hb dX9_behind_25 (by decide) ?_
      refine va_iald hx hb hKT hP 7 0 rfl rfl (vinC (by decide)) dX9_behind_26 ?_
      refine lv_aload_n hx hb dX9_behind_27 rfl (lv_at hl 0 rfl) ?_
      obtain ⟨q5, hq5, hB⟩ := bnd hB
      refine kr_V (WC := wd_X9_boughtIn cs a_t a_t_text a_t_opinions a_t_lines a_t_draftBook a_t_scribes a_t_turn a_t_bent a_t_need a_t_now a_t_isKept a_t_far a_t_marginOf a_t_marginSays v_t_trace v_t_typed v_t_needTold v_t_at v_t_start v_t_sort v_t_value v_t_fault v_t_target v_t_went v_t_ender v_t_had v_t_margins g_t_scribes g_t_now) (As := []) (rest := [.int (g_t_now (0 : Int32).toNatClampNeg), .ref a_t]) (r0 := q5) ⟨hx, hb, hml, hown, hg⟩ (k_X9_boughtIn l G cs a_t a_t_text a_t_opinions a_t_lines a_t_draftBook a_t_scribes a_t_turn a_t_bent a_t_need a_t_now a_t_isKept a_t_far a_t_marginOf a_t_marginSays v_t_trace v_t_typed v_t_needTold v_t_at v_t_start v_t_sort v_t_value v_t_fault v_t_target v_t_went v_t_ender v_t_had v_t_margins g_t_scribes g_t_now q5 hq5) gM_X9_176 mI_X9_boughtIn (rmk rfl) hP hKT hN 0 rfl rfl [0, 3, 7] rfl rfl hl.1 rfl (Nat.le_of_ble_eq_true rfl) dX9_behind_28 ?_
      refine lv_iload_n hx hb dX9_behind_31 rfl (lv_at hl 1 rfl) ?_
      obtain ⟨⟨q6_0, q6_1, q6_2⟩, hq6, hB⟩ := bnd hB
      refine kw_v (WC := wd_X9_go cs a_t a_t_text a_t_opinions a_t_lines a_t_draftBook a_t_scribes a_t_turn a_t_bent a_t_need a_t_now a_t_isKept a_t_far a_t_marginOf a_t_marginSays v_t_trace v_t_typed v_t_needTold v_t_at v_t_start v_t_sort v_t_value v_t_fault v_t_target v_t_went v_t_ender v_t_had v_t_margins g_t_opinions g_t_lines g_t_turn g_t_bent g_t_need) (W1 := wd_X9_go cs a_t a_t_text a_t_opinions a_t_lines a_t_draftBook a_t_scribes a_t_turn a_t_bent a_t_need a_t_now a_t_isKept a_t_far a_t_marginOf a_t_marginSays v_t_trace v_t_typed v_t_needTold v_t_at v_t_start v_t_sort v_t_value v_t_fault v_t_target q6_0 q6_1 q6_2 v_t_margins g_t_opinions g_t_lines g_t_turn g_t_bent g_t_need) (W2 := wd_X9_behind cs a_t a_t_text a_t_opinions a_t_lines a_t_draftBook a_t_scribes a_t_turn a_t_bent a_t_need a_t_now a_t_isKept a_t_far a_t_marginOf a_t_marginSays v_t_trace v_t_typed v_t_needTold v_t_at v_t_start v_t_sort v_t_value v_t_fault v_t_target q6_0 q6_1 q6_2 v_t_margins g_t_opinions g_t_lines g_t_scribes g_t_turn g_t_bent g_t_need g_t_now) (rw_V (As := [.int (g_t_now (0 : Int32).toNatClampNeg), .int q5, .int p1]) (rest := []) ⟨hx, hb, hml, hown, hg⟩ (k_X9_go l G cs a_t a_t_text a_t_opinions a_t_lines a_t_draftBook a_t_scribes a_t_turn a_t_bent a_t_need a_t_now a_t_isKept a_t_far a_t_marginOf a_t_marginSays v_t_trace v_t_typed v_t_needTold v_t_at v_t_start v_t_sort v_t_value v_t_fault v_t_target v_t_went v_t_ender v_t_had v_t_margins g_t_opinions g_t_lines g_t_turn g_t_bent g_t_need (g_t_now (0 : Int32).toNatClampNeg) q5 p1 H.size (q6_0, q6_1, q6_2) hq6) gM_X9_179 mI_X9_go (rmk rfl) hP hD hKT hN 0 rfl rfl [0, 1, 2, 4, 5, 6] rfl rfl rfl hl.1 rfl (Nat.le_of_ble_eq_true rfl) dX9_behind_32) hP hD hS hA [0, 1, 2, 4, 5, 6] [3, 7] [2, 3, 4, 0, 5, 6, 7, 1] ⟨rfl, rfl, rfl, rfl, rfl, rfl, rfl⟩ (fun H locs hP hD hS => ?_)
      refine lv_aload_n hx hb dX9_behind_35 rfl (lv_at hl 0 rfl) ?_
      refine lv_aload_n hx hb dX9_behind_36 rfl (lv_at hl 0 rfl) ?_
      refine va_get (D := G) (ci := 9) (v := .int q6_0) (C := RX9) (T := TX9) (N := 26) hx hb hg inX9 hown hKT hP 0 rfl rfl 19 (by decide) (hg _ gF_X9_167) (fun _ h9 => h9) rfl dX9_behind_37 ?_
      refine lv_iload_n hx hb dX9_behind_40 rfl (lv_at hl 2 rfl) ?_
      obtain ⟨q7, hq7, hB⟩ := bnd hB
      refine kr_V (WC := wd_X9_lineOf cs a_t a_t_text a_t_opinions a_t_lines a_t_draftBook a_t_scribes a_t_turn a_t_bent a_t_need a_t_now a_t_isKept a_t_far a_t_marginOf a_t_marginSays v_t_trace v_t_typed v_t_needTold v_t_at v_t_start v_t_sort v_t_value v_t_fault v_t_target q6_0 q6_1 q6_2 v_t_margins g_t_opinions g_t_lines) (As := [.int q6_0, .int p2]) (rest := []) (r0 := q7) ⟨hx, hb, hml, hown, hg⟩ (k_X9_lineOf l G cs a_t a_t_text a_t_opinions a_t_lines a_t_draftBook a_t_scribes a_t_turn a_t_bent a_t_need a_t_now a_t_isKept a_t_far a_t_marginOf a_t_marginSays v_t_trace v_t_typed v_t_needTold v_t_at v_t_start v_t_sort v_t_value v_t_fault v_t_target q6_0 q6_1 q6_2 v_t_margins g_t_opinions g_t_lines q6_0 p2 q7 hq7) gM_X9_113 mI_X9_lineOf (rmk rfl) hP hKT hN 0 rfl rfl [0, 1, 2] rfl rfl hl.1 rfl (Nat.le_of_ble_eq_true rfl) dX9_behind_41 ?_
      have hK := leafK hB hK
      have hK : (q7, q6_0, q6_1, q6_2) = R0 := hK
      subst hK
      exact W.iret (v := q7) hx hb hr (fun t ht hW => ⟨⟨_, (), rfl, rfl, by rw [ht]; exact hP, hD⟩, hS.F ht⟩) hS.2.2 dX9_behind_44
    · have hB := ifP c_4 hB
      refine lv_iconst (v := -1) hx hb dX9_behind_18 (by decide) ?_
      have hK := leafK hB hK
      have hK : ((-1 : Int32), v_t_went, v_t_ender, v_t_had) = R0 := hK
      subst hK
      exact W.iret (v := (-1 : Int32)) hx hb hr (fun t ht hW => ⟨⟨_, (), rfl, rfl, by rw [ht]; exact hP, hD⟩, hS.F ht⟩) hS.2.2 dX9_behind_19
def wd_X9_ends (cs : Nat → ClassId) (a_t a_t_text a_t_opinions a_t_lines a_t_draftBook a_t_scribes a_t_turn a_t_bent a_t_need a_t_now a_t_isKept a_t_far a_t_marginOf a_t_marginSays : Nat) (v_t_trace : Int64) (v_t_typed : Int32) (v_t_needTold : Int32) (v_t_at : Int32) (v_t_start : Int32) (v_t_sort : Int32) (v_t_value : Int32) (v_t_fault : Int32) (v_t_target : Int32) (v_t_went : Int32) (v_t_ender : Int32) (v_t_had : Int32) (v_t_margins : Int32) (g_t_opinions : Nat → Int32) (g_t_lines : Nat → Int32) (g_t_scribes : Nat → Int32) (g_t_turn : Nat → Int32) (g_t_bent : Nat → Int32) (g_t_need : Nat → Int32) (g_t_now : Nat → Int32) : va_W := [(a_t, .inr (9, [.long v_t_trace, .ref a_t_text, .int v_t_typed, .ref a_t_opinions, .ref a_t_lines, .ref a_t_draftBook, .ref a_t_scribes, .ref a_t_turn, .ref a_t_bent, .ref a_t_need, .int v_t_needTold, .int v_t_at, .int v_t_start, .int v_t_sort, .int v_t_value, .int v_t_fault, .ref a_t_now, .ref a_t_isKept, .int v_t_target, .int v_t_went, .int v_t_ender, .int v_t_had, .ref a_t_far, .ref a_t_marginOf, .ref a_t_marginSays, .int v_t_margins])), (a_t_opinions, .inl (cs 0, 2, .inl g_t_opinions)), (a_t_lines, .inl (cs 0, 2, .inl g_t_lines)), (a_t_scribes, .inl (cs 0, 2, .inl g_t_scribes)), (a_t_turn, .inl (cs 0, 12, .inl g_t_turn)), (a_t_bent, .inl (cs 0, 12, .inl g_t_bent)), (a_t_need, .inl (cs 0, 2, .inl g_t_need)), (a_t_now, .inl (cs 0, 300, .inl g_t_now))]
def rm_X9_ends : Room := { frames := 4, cells := 0, slots := 0, locals := 94 }
theorem mI_X9_ends : MI yX9_ends RX9 cX9_ends 2 (some .int) 1 := ⟨gI_X9_ends, gE_X9_ends, gN_X9, gC_X9_ends, by decide +kernel⟩
set_option maxHeartbeats 4000000 in
set_option maxRecDepth 100000 in
theorem k_X9_ends (l : Launch) (G : va_G) (cs : Nat → ClassId) (a_t a_t_text a_t_opinions a_t_lines a_t_draftBook a_t_scribes a_t_turn a_t_bent a_t_need a_t_now a_t_isKept a_t_far a_t_marginOf a_t_marginSays : Nat) (v_t_trace : Int64) (v_t_typed : Int32) (v_t_needTold : Int32) (v_t_at : Int32) (v_t_start : Int32) (v_t_sort : Int32) (v_t_value : Int32) (v_t_fault : Int32) (v_t_target : Int32) (v_t_went : Int32) (v_t_ender : Int32) (v_t_had : Int32) (v_t_margins : Int32) (g_t_opinions : Nat → Int32) (g_t_lines : Nat → Int32) (g_t_scribes : Nat → Int32) (g_t_turn : Nat → Int32) (g_t_bent : Nat → Int32) (g_t_need : Nat → Int32) (g_t_now : Nat → Int32) (p1 : Int32) (sz : Nat) (R0 : Int32 × Int32 × Int32 × Int32) (hB : f_X9_ends v_t_went v_t_ender v_t_had g_t_opinions g_t_lines g_t_scribes g_t_turn g_t_bent g_t_need g_t_now p1 = some R0) : Met l yX9_ends (.code yX9_ends cX9_ends 2 (some .int) :: GW) rm_X9_ends (PcW G cs [.ref a_t, .int p1] (wd_X9_ends cs a_t a_t_text a_t_opinions a_t_lines a_t_draftBook a_t_scribes a_t_turn a_t_bent a_t_need a_t_now a_t_isKept a_t_far a_t_marginOf a_t_marginSays v_t_trace v_t_typed v_t_needTold v_t_at v_t_start v_t_sort v_t_value v_t_fault v_t_target v_t_went v_t_ender v_t_had v_t_margins g_t_opinions g_t_lines g_t_scribes g_t_turn g_t_bent g_t_need g_t_now) sz) (QcI G (va_A (wd_X9_ends cs a_t a_t_text a_t_opinions a_t_lines a_t_draftBook a_t_scribes a_t_turn a_t_bent a_t_need a_t_now a_t_isKept a_t_far a_t_marginOf a_t_marginSays v_t_trace v_t_typed v_t_needTold v_t_at v_t_start v_t_sort v_t_value v_t_fault v_t_target v_t_went v_t_ender v_t_had v_t_margins g_t_opinions g_t_lines g_t_scribes g_t_turn g_t_bent g_t_need g_t_now) sz) (wd_X9_ends cs a_t a_t_text a_t_opinions a_t_lines a_t_draftBook a_t_scribes a_t_turn a_t_bent a_t_need a_t_now a_t_isKept a_t_far a_t_marginOf a_t_marginSays v_t_trace v_t_typed v_t_needTold v_t_at v_t_start v_t_sort v_t_value v_t_fault v_t_target R0.2.1 R0.2.2.1 R0.2.2.2 v_t_margins g_t_opinions g_t_lines g_t_scribes g_t_turn g_t_bent g_t_need g_t_now) R0.1) 0 0 (va_A (wd_X9_ends cs a_t a_t_text a_t_opinions a_t_lines a_t_draftBook a_t_scribes a_t_turn a_t_bent a_t_need a_t_now a_t_isKept a_t_far a_t_marginOf a_t_marginSays v_t_trace v_t_typed v_t_needTold v_t_at v_t_start v_t_sort v_t_value v_t_fault v_t_target v_t_went v_t_ender v_t_had v_t_margins g_t_opinions g_t_lines g_t_scribes g_t_turn g_t_bent g_t_need g_t_now) sz) := by
  refine Met.ofW (cc := cX9_ends) (maxL := 2) (ret := (some .int)) (by decide) rfl ?_
  intro p e s m args below meth c s₁ B hml hv
  obtain ⟨rfl, hsz, hP, hD0, hK, hN⟩ := hv
  have hx := B.exec
  have hb := B.bytes
  have hr := B.returns
  have hts := atoms_spec (ws := .code yX9_ends cX9_ends 2 (some .int) :: GW) B.pre
  have hg : ∀ w ∈ GW, w.before _ s = true := fun w h => hts w (List.mem_cons_of_mem _ h)
  have hown : s.vm.findClass RX9 = some m.cls := findClass_of_methodNamed B.named
  have hlocks := B.notSynchronized
  subst hsz
  have hD := hD0.self (sz := s.heap.size)
  generalize hAe : va_A (wd_X9_ends cs a_t a_t_text a_t_opinions a_t_lines a_t_draftBook a_t_scribes a_t_turn a_t_bent a_t_need a_t_now a_t_isKept a_t_far a_t_marginOf a_t_marginSays v_t_trace v_t_typed v_t_needTold v_t_at v_t_start v_t_sort v_t_value v_t_fault v_t_target v_t_went v_t_ender v_t_had v_t_margins g_t_opinions g_t_lines g_t_scribes g_t_turn g_t_bent g_t_need g_t_now) s.heap.size = A at hD ⊢
  have hA : ∀ q : Nat, s.heap.size ≤ q → A q := fun q h => by rw [← hAe]; exact Or.inr h
  have hS : va_S A s.heap s.heap [] := va_S.rf
  have hl := lv_entry ([.ref a_t, .int p1]) (n := 2) (Nat.le_of_ble_eq_true rfl)
  rw [lg_entry_eq]
  generalize (lg_sl ([.ref a_t, .int p1]) ++ List.replicate (2 - (lg_sl ([.ref a_t, .int p1])).length) Slot.unset).toArray = ls at hl ⊢
  have hl : lv_has ls 2 [(0, .ref a_t), (1, .int p1)] := hl
  obtain ⟨y, hB, hK0⟩ : ∃ y, f_X9_ends v_t_went v_t_ender v_t_had g_t_opinions g_t_lines g_t_scribes g_t_turn g_t_bent g_t_need g_t_now p1 = some y ∧ KEnd R0 y := ⟨R0, hB, rfl⟩
  have hKT := hK
  have hK := hK0
  obtain ⟨H, hHe⟩ : ∃ H, H = s.heap := ⟨_, rfl⟩
  obtain ⟨locs, hLe⟩ : ∃ L : List Loc, L = [] := ⟨_, rfl⟩
  rw [← hHe] at hP
  have hS : va_S A s.heap H locs := by rw [hHe, hLe]; exact hS
  show W p l e rm_X9_ends s m ([.ref a_t, .int p1] : List Value).toArray below meth c s.heap [] 0 0 _ _
  suffices hgo : W p l e rm_X9_ends s m ([.ref a_t, .int p1] : List Value).toArray below meth c H locs 0 0 (MQ below (QcI G A (wd_X9_ends cs a_t a_t_text a_t_opinions a_t_lines a_t_draftBook a_t_scribes a_t_turn a_t_bent a_t_need a_t_now a_t_isKept a_t_far a_t_marginOf a_t_marginSays v_t_trace v_t_typed v_t_needTold v_t_at v_t_start v_t_sort v_t_value v_t_fault v_t_target R0.2.1 R0.2.2.1 R0.2.2.2 v_t_margins g_t_opinions g_t_lines g_t_scribes g_t_turn g_t_bent g_t_need g_t_now) R0.1) ([.ref a_t, .int p1] : List Value).toArray s 0 0 A) (F0 m 0 ls []) by rw [hHe, hLe] at hgo; exact hgo
  refine lv_iload_n hx hb dX9_ends_0 rfl (lv_at hl 1 rfl) ?_
  refine lv_iconst (v := 0) hx hb dX9_ends_1 (by decide) ?_
  refine lv_iconst (v := 1) hx hb dX9_ends_2 (by decide) ?_
  obtain ⟨q1, hq1, hB⟩ := bnd hB
  refine kr_S (WC := wd_X9_in cs ) (As := [.int p1, .int (0 : Int32), .int (1 : Int32)]) (rest := []) (r0 := q1) ⟨hx, hb, hml, hown, hg⟩ (k_X9_in l G cs p1 (0 : Int32) (1 : Int32) q1 hq1) gM_X9_57 mS_X9_in (rmk rfl) hP hKT hN [] rfl rfl hl.1 rfl (Nat.le_of_ble_eq_true rfl) dX9_ends_3 ?_
  refine lv_if_ne (tgt := 11) hx hb dX9_ends_6 (by decide) (fun c_2 => ?_) (fun c_2 => ?_)
  · have hB := ifN c_2 hB
    refine lv_aload_n hx hb dX9_ends_11 rfl (lv_at hl 0 rfl) ?_
    refine lv_aload_n hx hb dX9_ends_12 rfl (lv_at hl 0 rfl) ?_
    refine va_get (D := G) (ci := 9) (v := .ref a_t_now) (C := RX9) (T := TX9) (N := 26) hx hb hg inX9 hown hKT hP 0 rfl rfl 16 (by decide) (hg _ gF_X9_35) (fun _ h9 => h9) rfl dX9_ends_13 ?_
    refine lv_iconst (v := 0) hx hb dX9_ends_16 (by decide) ?_
    refine va_iald hx hb hKT hP 7 0 rfl rfl (vinC (by decide)) dX9_ends_17 ?_
    refine lv_aload_n hx hb dX9_ends_18 rfl (lv_at hl 0 rfl) ?_
    obtain ⟨q3, hq3, hB⟩ := bnd hB
    refine kr_V (WC := wd_X9_boughtIn cs a_t a_t_text a_t_opinions a_t_lines a_t_draftBook a_t_scribes a_t_turn a_t_bent a_t_need a_t_now a_t_isKept a_t_far a_t_marginOf a_t_marginSays v_t_trace v_t_typed v_t_needTold v_t_at v_t_start v_t_sort v_t_value v_t_fault v_t_target v_t_went v_t_ender v_t_had v_t_margins g_t_scribes g_t_now) (As := []) (rest := [.int (g_t_now (0 : Int32).toNatClampNeg), .ref a_t]) (r0 := q3) ⟨hx, hb, hml, hown, hg⟩ (k_X9_boughtIn l G cs a_t a_t_text a_t_opinions a_t_lines a_t_draftBook a_t_scribes a_t_turn a_t_bent a_t_need a_t_now a_t_isKept a_t_far a_t_marginOf a_t_marginSays v_t_trace v_t_typed v_t_needTold v_t_at v_t_start v_t_sort v_t_value v_t_fault v_t_target v_t_went v_t_ender v_t_had v_t_margins g_t_scribes g_t_now q3 hq3) gM_X9_176 mI_X9_boughtIn (rmk rfl) hP hKT hN 0 rfl rfl [0, 3, 7] rfl rfl hl.1 rfl (Nat.le_of_ble_eq_true rfl) dX9_ends_19 ?_
    refine lv_sipush (v := 4000) hx hb dX9_ends_22 (by decide) ?_
    obtain ⟨⟨q4_0, q4_1, q4_2⟩, hq4, hB⟩ := bnd hB
    refine kw_v (WC := wd_X9_go cs a_t a_t_text a_t_opinions a_t_lines a_t_draftBook a_t_scribes a_t_turn a_t_bent a_t_need a_t_now a_t_isKept a_t_far a_t_marginOf a_t_marginSays v_t_trace v_t_typed v_t_needTold v_t_at v_t_start v_t_sort v_t_value v_t_fault v_t_target v_t_went v_t_ender v_t_had v_t_margins g_t_opinions g_t_lines g_t_turn g_t_bent g_t_need) (W1 := wd_X9_go cs a_t a_t_text a_t_opinions a_t_lines a_t_draftBook a_t_scribes a_t_turn a_t_bent a_t_need a_t_now a_t_isKept a_t_far a_t_marginOf a_t_marginSays v_t_trace v_t_typed v_t_needTold v_t_at v_t_start v_t_sort v_t_value v_t_fault v_t_target q4_0 q4_1 q4_2 v_t_margins g_t_opinions g_t_lines g_t_turn g_t_bent g_t_need) (W2 := wd_X9_ends cs a_t a_t_text a_t_opinions a_t_lines a_t_draftBook a_t_scribes a_t_turn a_t_bent a_t_need a_t_now a_t_isKept a_t_far a_t_marginOf a_t_marginSays v_t_trace v_t_typed v_t_needTold v_t_at v_t_start v_t_sort v_t_value v_t_fault v_t_target q4_0 q4_1 q4_2 v_t_margins g_t_opinions g_t_lines g_t_scribes g_t_turn g_t_bent g_t_need g_t_now) (rw_V (As := [.int (g_t_now (0 : Int32).toNatClampNeg), .int q3, .int (4000 : Int32)]) (rest := []) ⟨hx, hb, hml, hown, hg⟩ (k_X9_go l G cs a_t a_t_text a_t_opinions a_t_lines a_t_draftBook a_t_scribes a_t_turn a_t_bent a_t_need a_t_now a_t_isKept a_t_far a_t_marginOf a_t_marginSays v_t_trace v_t_typed v_t_needTold v_t_at v_t_start v_t_sort v_t_value v_t_fault v_t_target v_t_went v_t_ender v_t_had v_t_margins g_t_opinions g_t_lines g_t_turn g_t_bent g_t_need (g_t_now (0 : Int32).toNatClampNeg) q3 (4000 : Int32) H.size (q4_0, q4_1, q4_2) hq4) gM_X9_179 mI_X9_go (rmk rfl) hP hD hKT hN 0 rfl rfl [0, 1, 2, 4, 5, 6] rfl rfl rfl hl.1 rfl (Nat.le_of_ble_eq_true rfl) dX9_ends_25) hP hD hS hA [0, 1, 2, 4, 5, 6] [3, 7] [2, 3, 4, 0, 5, 6, 7, 1] ⟨rfl, rfl, rfl, rfl, rfl, rfl, rfl⟩ (fun H locs hP hD hS => ?_)
    refine lv_iload_n hx hb dX9_ends_28 rfl (lv_at hl 1 rfl) ?_
    refine lv_if_ne (tgt := 39) hx hb dX9_ends_29 (by decide) (fun c_5 => ?_) (fun c_5 => ?_)
    · have hB := ifN c_5 hB
      refine lv_aload_n hx hb dX9_ends_39 rfl (lv_at hl 0 rfl) ?_
      refine va_get (D := G) (ci := 9) (v := .int q4_2) (C := RX9) (T := TX9) (N := 26) hx hb hg inX9 hown hKT hP 0 rfl rfl 21 (by decide) (hg _ gF_X9_173) (fun _ h9 => h9) rfl dX9_ends_40 ?_
      refine lv_sipush (v := 4000) hx hb dX9_ends_43 (by decide) ?_
      refine lv_icmp_ne (tgt := 54) hx hb dX9_ends_46 (by decide) (fun c_6 => ?_) (fun c_6 => ?_)
      · have hB := ifN c_6 hB
        refine lv_aload_n hx hb dX9_ends_54 rfl (lv_at hl 0 rfl) ?_
        refine va_get (D := G) (ci := 9) (v := .int q4_2) (C := RX9) (T := TX9) (N := 26) hx hb hg inX9 hown hKT hP 0 rfl rfl 21 (by decide) (hg _ gF_X9_173) (fun _ h9 => h9) rfl dX9_ends_55 ?_
        have hK := leafK hB hK
        have hK : (q4_2, q4_0, q4_1, q4_2) = R0 := hK
        subst hK
        exact W.iret (v := q4_2) hx hb hr (fun t ht hW => ⟨⟨_, (), rfl, rfl, by rw [ht]; exact hP, hD⟩, hS.F ht⟩) hS.2.2 dX9_ends_58
      · have hB := ifP c_6 hB
        refine lv_bipush (v := -9) hx hb dX9_ends_49 (by decide) ?_
        refine lv_goto (tgt := 58) hx hb dX9_ends_51 (by decide) ?_
        have hK := leafK hB hK
        have hK : ((-9 : Int32), q4_0, q4_1, q4_2) = R0 := hK
        subst hK
        exact W.iret (v := (-9 : Int32)) hx hb hr (fun t ht hW => ⟨⟨_, (), rfl, rfl, by rw [ht]; exact hP, hD⟩, hS.F ht⟩) hS.2.2 dX9_ends_58
    · have hB := ifP c_5 hB
      refine lv_aload_n hx hb dX9_ends_32 rfl (lv_at hl 0 rfl) ?_
      refine va_get (D := G) (ci := 9) (v := .int q4_1) (C := RX9) (T := TX9) (N := 26) hx hb hg inX9 hown hKT hP 0 rfl rfl 20 (by decide) (hg _ gF_X9_170) (fun _ h9 => h9) rfl dX9_ends_33 ?_
      refine lv_goto (tgt := 58) hx hb dX9_ends_36 (by decide) ?_
      have hK := leafK hB hK
      have hK : (q4_1, q4_0, q4_1, q4_2) = R0 := hK
      subst hK
      exact W.iret (v := q4_1) hx hb hr (fun t ht hW => ⟨⟨_, (), rfl, rfl, by rw [ht]; exact hP, hD⟩, hS.F ht⟩) hS.2.2 dX9_ends_58
  · have hB := ifP c_2 hB
    refine lv_iconst (v := -1) hx hb dX9_ends_9 (by decide) ?_
    have hK := leafK hB hK
    have hK : ((-1 : Int32), v_t_went, v_t_ender, v_t_had) = R0 := hK
    subst hK
    exact W.iret (v := (-1 : Int32)) hx hb hr (fun t ht hW => ⟨⟨_, (), rfl, rfl, by rw [ht]; exact hP, hD⟩, hS.F ht⟩) hS.2.2 dX9_ends_10
def wd_X9_lasts (cs : Nat → ClassId) (a_t a_t_text a_t_opinions a_t_lines a_t_draftBook a_t_scribes a_t_turn a_t_bent a_t_need a_t_now a_t_isKept a_t_far a_t_marginOf a_t_marginSays : Nat) (v_t_trace : Int64) (v_t_typed : Int32) (v_t_needTold : Int32) (v_t_at : Int32) (v_t_start : Int32) (v_t_sort : Int32) (v_t_value : Int32) (v_t_fault : Int32) (v_t_target : Int32) (v_t_went : Int32) (v_t_ender : Int32) (v_t_had : Int32) (v_t_margins : Int32) (g_t_opinions : Nat → Int32) (g_t_lines : Nat → Int32) (g_t_scribes : Nat → Int32) (g_t_turn : Nat → Int32) (g_t_bent : Nat → Int32) (g_t_need : Nat → Int32) (g_t_now : Nat → Int32) : va_W := [(a_t, .inr (9, [.long v_t_trace, .ref a_t_text, .int v_t_typed, .ref a_t_opinions, .ref a_t_lines, .ref a_t_draftBook, .ref a_t_scribes, .ref a_t_turn, .ref a_t_bent, .ref a_t_need, .int v_t_needTold, .int v_t_at, .int v_t_start, .int v_t_sort, .int v_t_value, .int v_t_fault, .ref a_t_now, .ref a_t_isKept, .int v_t_target, .int v_t_went, .int v_t_ender, .int v_t_had, .ref a_t_far, .ref a_t_marginOf, .ref a_t_marginSays, .int v_t_margins])), (a_t_opinions, .inl (cs 0, 2, .inl g_t_opinions)), (a_t_lines, .inl (cs 0, 2, .inl g_t_lines)), (a_t_scribes, .inl (cs 0, 2, .inl g_t_scribes)), (a_t_turn, .inl (cs 0, 12, .inl g_t_turn)), (a_t_bent, .inl (cs 0, 12, .inl g_t_bent)), (a_t_need, .inl (cs 0, 2, .inl g_t_need)), (a_t_now, .inl (cs 0, 300, .inl g_t_now))]
def rm_X9_lasts : Room := { frames := 4, cells := 0, slots := 0, locals := 94 }
theorem mI_X9_lasts : MI yX9_lasts RX9 cX9_lasts 5 (some .int) 1 := ⟨gI_X9_lasts, gE_X9_lasts, gN_X9, gC_X9_lasts, by decide +kernel⟩
set_option maxHeartbeats 4000000 in
set_option maxRecDepth 100000 in
theorem k_X9_lasts (l : Launch) (G : va_G) (cs : Nat → ClassId) (a_t a_t_text a_t_opinions a_t_lines a_t_draftBook a_t_scribes a_t_turn a_t_bent a_t_need a_t_now a_t_isKept a_t_far a_t_marginOf a_t_marginSays : Nat) (v_t_trace : Int64) (v_t_typed : Int32) (v_t_needTold : Int32) (v_t_at : Int32) (v_t_start : Int32) (v_t_sort : Int32) (v_t_value : Int32) (v_t_fault : Int32) (v_t_target : Int32) (v_t_went : Int32) (v_t_ender : Int32) (v_t_had : Int32) (v_t_margins : Int32) (g_t_opinions : Nat → Int32) (g_t_lines : Nat → Int32) (g_t_scribes : Nat → Int32) (g_t_turn : Nat → Int32) (g_t_bent : Nat → Int32) (g_t_need : Nat → Int32) (g_t_now : Nat → Int32) (p1 : Int32) (sz : Nat) (R0 : Int32 × Int32 × Int32 × Int32) (hB : f_X9_lasts v_t_went v_t_ender v_t_had g_t_opinions g_t_lines g_t_scribes g_t_turn g_t_bent g_t_need g_t_now p1 = some R0) : Met l yX9_lasts (.code yX9_lasts cX9_lasts 5 (some .int) :: GW) rm_X9_lasts (PcW G cs [.ref a_t, .int p1] (wd_X9_lasts cs a_t a_t_text a_t_opinions a_t_lines a_t_draftBook a_t_scribes a_t_turn a_t_bent a_t_need a_t_now a_t_isKept a_t_far a_t_marginOf a_t_marginSays v_t_trace v_t_typed v_t_needTold v_t_at v_t_start v_t_sort v_t_value v_t_fault v_t_target v_t_went v_t_ender v_t_had v_t_margins g_t_opinions g_t_lines g_t_scribes g_t_turn g_t_bent g_t_need g_t_now) sz) (QcI G (va_A (wd_X9_lasts cs a_t a_t_text a_t_opinions a_t_lines a_t_draftBook a_t_scribes a_t_turn a_t_bent a_t_need a_t_now a_t_isKept a_t_far a_t_marginOf a_t_marginSays v_t_trace v_t_typed v_t_needTold v_t_at v_t_start v_t_sort v_t_value v_t_fault v_t_target v_t_went v_t_ender v_t_had v_t_margins g_t_opinions g_t_lines g_t_scribes g_t_turn g_t_bent g_t_need g_t_now) sz) (wd_X9_lasts cs a_t a_t_text a_t_opinions a_t_lines a_t_draftBook a_t_scribes a_t_turn a_t_bent a_t_need a_t_now a_t_isKept a_t_far a_t_marginOf a_t_marginSays v_t_trace v_t_typed v_t_needTold v_t_at v_t_start v_t_sort v_t_value v_t_fault v_t_target R0.2.1 R0.2.2.1 R0.2.2.2 v_t_margins g_t_opinions g_t_lines g_t_scribes g_t_turn g_t_bent g_t_need g_t_now) R0.1) 0 0 (va_A (wd_X9_lasts cs a_t a_t_text a_t_opinions a_t_lines a_t_draftBook a_t_scribes a_t_turn a_t_bent a_t_need a_t_now a_t_isKept a_t_far a_t_marginOf a_t_marginSays v_t_trace v_t_typed v_t_needTold v_t_at v_t_start v_t_sort v_t_value v_t_fault v_t_target v_t_went v_t_ender v_t_had v_t_margins g_t_opinions g_t_lines g_t_scribes g_t_turn g_t_bent g_t_need g_t_now) sz) := by
  refine Met.ofW (cc := cX9_lasts) (maxL := 5) (ret := (some .int)) (by decide) rfl ?_
  intro p e s m args below meth c s₁ B hml hv
  obtain ⟨rfl, hsz, hP, hD0, hK, hN⟩ := hv
  have hx := B.exec
  have hb := B.bytes
  have hr := B.returns
  have hts := atoms_spec (ws := .code yX9_lasts cX9_lasts 5 (some .int) :: GW) B.pre
  have hg : ∀ w ∈ GW, w.before _ s = true := fun w h => hts w (List.mem_cons_of_mem _ h)
  have hown : s.vm.findClass RX9 = some m.cls := findClass_of_methodNamed B.named
  have hlocks := B.notSynchronized
  subst hsz
  have hD := hD0.self (sz := s.heap.size)
  generalize hAe : va_A (wd_X9_lasts cs a_t a_t_text a_t_opinions a_t_lines a_t_draftBook a_t_scribes a_t_turn a_t_bent a_t_need a_t_now a_t_isKept a_t_far a_t_marginOf a_t_marginSays v_t_trace v_t_typed v_t_needTold v_t_at v_t_start v_t_sort v_t_value v_t_fault v_t_target v_t_went v_t_ender v_t_had v_t_margins g_t_opinions g_t_lines g_t_scribes g_t_turn g_t_bent g_t_need g_t_now) s.heap.size = A at hD ⊢
  have hA : ∀ q : Nat, s.heap.size ≤ q → A q := fun q h => by rw [← hAe]; exact Or.inr h
  have hS : va_S A s.heap s.heap [] := va_S.rf
  have hl := lv_entry ([.ref a_t, .int p1]) (n := 5) (Nat.le_of_ble_eq_true rfl)
  rw [lg_entry_eq]
  generalize (lg_sl ([.ref a_t, .int p1]) ++ List.replicate (5 - (lg_sl ([.ref a_t, .int p1])).length) Slot.unset).toArray = ls at hl ⊢
  have hl : lv_has ls 5 [(0, .ref a_t), (1, .int p1)] := hl
  obtain ⟨y, hB, hK0⟩ : ∃ y, f_X9_lasts v_t_went v_t_ender v_t_had g_t_opinions g_t_lines g_t_scribes g_t_turn g_t_bent g_t_need g_t_now p1 = some y ∧ KEnd R0 y := ⟨R0, hB, rfl⟩
  have hKT := hK
  have hK := hK0
  obtain ⟨H, hHe⟩ : ∃ H, H = s.heap := ⟨_, rfl⟩
  obtain ⟨locs, hLe⟩ : ∃ L : List Loc, L = [] := ⟨_, rfl⟩
  rw [← hHe] at hP
  have hS : va_S A s.heap H locs := by rw [hHe, hLe]; exact hS
  show W p l e rm_X9_lasts s m ([.ref a_t, .int p1] : List Value).toArray below meth c s.heap [] 0 0 _ _
  suffices hgo : W p l e rm_X9_lasts s m ([.ref a_t, .int p1] : List Value).toArray below meth c H locs 0 0 (MQ below (QcI G A (wd_X9_lasts cs a_t a_t_text a_t_opinions a_t_lines a_t_draftBook a_t_scribes a_t_turn a_t_bent a_t_need a_t_now a_t_isKept a_t_far a_t_marginOf a_t_marginSays v_t_trace v_t_typed v_t_needTold v_t_at v_t_start v_t_sort v_t_value v_t_fault v_t_target R0.2.1 R0.2.2.1 R0.2.2.2 v_t_margins g_t_opinions g_t_lines g_t_scribes g_t_turn g_t_bent g_t_need g_t_now) R0.1) ([.ref a_t, .int p1] : List Value).toArray s 0 0 A) (F0 m 0 ls []) by rw [hHe, hLe] at hgo; exact hgo
  refine lv_iload_n hx hb dX9_lasts_0 rfl (lv_at hl 1 rfl) ?_
  refine lv_iconst (v := 0) hx hb dX9_lasts_1 (by decide) ?_
  refine lv_iconst (v := 1) hx hb dX9_lasts_2 (by decide) ?_
  obtain ⟨q1, hq1, hB⟩ := bnd hB
  refine kr_S (WC := wd_X9_in cs ) (As := [.int p1, .int (0 : Int32), .int (1 : Int32)]) (rest := []) (r0 := q1) ⟨hx, hb, hml, hown, hg⟩ (k_X9_in l G cs p1 (0 : Int32) (1 : Int32) q1 hq1) gM_X9_57 mS_X9_in (rmk rfl) hP hKT hN [] rfl rfl hl.1 rfl (Nat.le_of_ble_eq_true rfl) dX9_lasts_3 ?_
  refine lv_if_ne (tgt := 11) hx hb dX9_lasts_6 (by decide) (fun c_2 => ?_) (fun c_2 => ?_)
  · have hB := ifN c_2 hB
    refine lv_aload_n hx hb dX9_lasts_11 rfl (lv_at hl 0 rfl) ?_
    refine va_get (D := G) (ci := 9) (v := .ref a_t_lines) (C := RX9) (T := TX9) (N := 26) hx hb hg inX9 hown hKT hP 0 rfl rfl 4 (by decide) (hg _ gF_X9_17) (fun _ h9 => h9) rfl dX9_lasts_12 ?_
    refine lv_iconst (v := 0) hx hb dX9_lasts_15 (by decide) ?_
    refine va_iald hx hb hKT hP 2 0 rfl rfl (vinC (by decide)) dX9_lasts_16 ?_
    refine lv_if_eq (tgt := 27) hx hb dX9_lasts_17 (by decide) (fun c_3 => ?_) (fun c_3 => ?_)
    · have hB := ifP c_3 hB
      refine lv_bipush (v := -9) hx hb dX9_lasts_27 (by decide) ?_
      have hK := leafK hB hK
      have hK : ((-9 : Int32), v_t_went, v_t_ender, v_t_had) = R0 := hK
      subst hK
      exact W.iret (v := (-9 : Int32)) hx hb hr (fun t ht hW => ⟨⟨_, (), rfl, rfl, by rw [ht]; exact hP, hD⟩, hS.F ht⟩) hS.2.2 dX9_lasts_29
    · have hB := ifN c_3 hB
      refine lv_aload_n hx hb dX9_lasts_20 rfl (lv_at hl 0 rfl) ?_
      obtain ⟨q4, hq4, hB⟩ := bnd hB
      refine kr_V (WC := wd_X9_boughtIn cs a_t a_t_text a_t_opinions a_t_lines a_t_draftBook a_t_scribes a_t_turn a_t_bent a_t_need a_t_now a_t_isKept a_t_far a_t_marginOf a_t_marginSays v_t_trace v_t_typed v_t_needTold v_t_at v_t_start v_t_sort v_t_value v_t_fault v_t_target v_t_went v_t_ender v_t_had v_t_margins g_t_scribes g_t_now) (As := []) (rest := []) (r0 := q4) ⟨hx, hb, hml, hown, hg⟩ (k_X9_boughtIn l G cs a_t a_t_text a_t_opinions a_t_lines a_t_draftBook a_t_scribes a_t_turn a_t_bent a_t_need a_t_now a_t_isKept a_t_far a_t_marginOf a_t_marginSays v_t_trace v_t_typed v_t_needTold v_t_at v_t_start v_t_sort v_t_value v_t_fault v_t_target v_t_went v_t_ender v_t_had v_t_margins g_t_scribes g_t_now q4 hq4) gM_X9_176 mI_X9_boughtIn (rmk rfl) hP hKT hN 0 rfl rfl [0, 3, 7] rfl rfl hl.1 rfl (Nat.le_of_ble_eq_true rfl) dX9_lasts_21 ?_
      refine lv_if_ne (tgt := 30) hx hb dX9_lasts_24 (by decide) (fun c_5 => ?_) (fun c_5 => ?_)
      · have hB := ifN c_5 hB
        refine lv_bipush (v := -9) hx hb dX9_lasts_30 (by decide) ?_
        refine lv_istore_n (lv' := [(2, .int (-9 : Int32)), (0, .ref a_t), (1, .int p1)]) hx hb dX9_lasts_32 rfl hl (by decide) rfl (fun ls hl => ?_)
        refine lv_iconst (v := -1) hx hb dX9_lasts_33 (by decide) ?_
        refine lv_istore_n (lv' := [(3, .int (-1 : Int32)), (2, .int (-9 : Int32)), (0, .ref a_t), (1, .int p1)]) hx hb dX9_lasts_34 rfl hl (by decide) rfl (fun ls hl => ?_)
        refine lv_iconst (v := 0) hx hb dX9_lasts_35 (by decide) ?_
        refine lv_istore (lv' := [(4, .int (0 : Int32)), (3, .int (-1 : Int32)), (2, .int (-9 : Int32)), (0, .ref a_t), (1, .int p1)]) hx hb dX9_lasts_36 hl (by decide) rfl (fun ls hl => ?_)
        refine lp_ind (Wh := fun (z6 : Int32 × Int32 × Int32 × Int32 × Int32 × Int32) => ∀ (H : Heap) (locs : List Loc), va_P G vwCl (wd_X9_lasts cs a_t a_t_text a_t_opinions a_t_lines a_t_draftBook a_t_scribes a_t_turn a_t_bent a_t_need a_t_now a_t_isKept a_t_far a_t_marginOf a_t_marginSays v_t_trace v_t_typed v_t_needTold v_t_at v_t_start v_t_sort v_t_value v_t_fault v_t_target z6.2.2.2.1 z6.2.2.2.2.1 z6.2.2.2.2.2 v_t_margins g_t_opinions g_t_lines g_t_scribes g_t_turn g_t_bent g_t_need g_t_now) H → va_D A (wd_X9_lasts cs a_t a_t_text a_t_opinions a_t_lines a_t_draftBook a_t_scribes a_t_turn a_t_bent a_t_need a_t_now a_t_isKept a_t_far a_t_marginOf a_t_marginSays v_t_trace v_t_typed v_t_needTold v_t_at v_t_start v_t_sort v_t_value v_t_fault v_t_target z6.2.2.2.1 z6.2.2.2.2.1 z6.2.2.2.2.2 v_t_margins g_t_opinions g_t_lines g_t_scribes g_t_turn g_t_bent g_t_need g_t_now) → va_S A s.heap H locs → ∀ (ls : Array Slot), lv_has ls 5 [(0, .ref a_t), (1, .int p1), (2, .int z6.1), (3, .int z6.2.1), (4, .int z6.2.2.1)] → W p l e rm_X9_lasts s m ([.ref a_t, .int p1] : List Value).toArray below meth c H locs 0 0 (MQ below (QcI G A (wd_X9_lasts cs a_t a_t_text a_t_opinions a_t_lines a_t_draftBook a_t_scribes a_t_turn a_t_bent a_t_need a_t_now a_t_isKept a_t_far a_t_marginOf a_t_marginSays v_t_trace v_t_typed v_t_needTold v_t_at v_t_start v_t_sort v_t_value v_t_fault v_t_target R0.2.1 R0.2.2.1 R0.2.2.2 v_t_margins g_t_opinions g_t_lines g_t_scribes g_t_turn g_t_bent g_t_need g_t_now) R0.1) ([.ref a_t, .int p1] : List Value).toArray s 0 0 A) (F0 m 38 ls [])) ?_ FU _ _ hB hK H locs hP hD hS ls (lv_sub hl [3, 4, 2, 1, 0] rfl)
        rintro ⟨z6_0, z6_1, z6_2, z6_3, z6_4, z6_5⟩ y hB hK H locs hP hD hS ls hl
        have hl : lv_has ls 5 [(0, .ref a_t), (1, .int p1), (2, .int z6_0), (3, .int z6_1), (4, .int z6_2)] := hl
        have hP : va_P G vwCl (wd_X9_lasts cs a_t a_t_text a_t_opinions a_t_lines a_t_draftBook a_t_scribes a_t_turn a_t_bent a_t_need a_t_now a_t_isKept a_t_far a_t_marginOf a_t_marginSays v_t_trace v_t_typed v_t_needTold v_t_at v_t_start v_t_sort v_t_value v_t_fault v_t_target z6_3 z6_4 z6_5 v_t_margins g_t_opinions g_t_lines g_t_scribes g_t_turn g_t_bent g_t_need g_t_now) H := hP
        have hD : va_D A (wd_X9_lasts cs a_t a_t_text a_t_opinions a_t_lines a_t_draftBook a_t_scribes a_t_turn a_t_bent a_t_need a_t_now a_t_isKept a_t_far a_t_marginOf a_t_marginSays v_t_trace v_t_typed v_t_needTold v_t_at v_t_start v_t_sort v_t_value v_t_fault v_t_target z6_3 z6_4 z6_5 v_t_margins g_t_opinions g_t_lines g_t_scribes g_t_turn g_t_bent g_t_need g_t_now) := hD
        refine lv_iload hx hb dX9_lasts_38 (lv_at hl 4 rfl) ?_
        refine lv_aload_n hx hb dX9_lasts_40 rfl (lv_at hl 0 rfl) ?_
        obtain ⟨q7, hq7, hB⟩ := bnd hB
        refine kr_V (WC := wd_X9_books cs a_t a_t_text a_t_opinions a_t_lines a_t_draftBook a_t_scribes a_t_turn a_t_bent a_t_need a_t_now a_t_isKept a_t_far a_t_marginOf a_t_marginSays v_t_trace v_t_typed v_t_needTold v_t_at v_t_start v_t_sort v_t_value v_t_fault v_t_target z6_3 z6_4 z6_5 v_t_margins g_t_opinions g_t_lines) (As := []) (rest := [.int z6_2]) (r0 := q7) ⟨hx, hb, hml, hown, hg⟩ (k_X9_books l G cs a_t a_t_text a_t_opinions a_t_lines a_t_draftBook a_t_scribes a_t_turn a_t_bent a_t_need a_t_now a_t_isKept a_t_far a_t_marginOf a_t_marginSays v_t_trace v_t_typed v_t_needTold v_t_at v_t_start v_t_sort v_t_value v_t_fault v_t_target z6_3 z6_4 z6_5 v_t_margins g_t_opinions g_t_lines q7 hq7) gM_X9_152 mI_X9_books (rmk rfl) hP hKT hN 0 rfl rfl [0, 1, 2] rfl rfl hl.1 rfl (Nat.le_of_ble_eq_true rfl) dX9_lasts_41 ?_
        refine lv_icmp_ge (tgt := 95) hx hb dX9_lasts_44 (by decide) (fun c_8 => ?_) (fun c_8 => ?_)
        · have hB := ifP c_8 hB
          refine lv_iload_n hx hb dX9_lasts_95 rfl (lv_at hl 1 rfl) ?_
          refine lv_if_ne (tgt := 103) hx hb dX9_lasts_96 (by decide) (fun c_9 => ?_) (fun c_9 => ?_)
          · have hB := ifN c_9 hB
            refine lv_iload_n hx hb dX9_lasts_103 rfl (lv_at hl 3 rfl) ?_
            have hK := leafK hB hK
            have hK := elimR hK
            have hK : (z6_1, z6_3, z6_4, z6_5) = R0 := hK
            subst hK
            exact W.iret (v := z6_1) hx hb hr (fun t ht hW => ⟨⟨_, (), rfl, rfl, by rw [ht]; exact hP, hD⟩, hS.F ht⟩) hS.2.2 dX9_lasts_104
          · have hB := ifP c_9 hB
            refine lv_iload_n hx hb dX9_lasts_99 rfl (lv_at hl 2 rfl) ?_
            refine lv_goto (tgt := 104) hx hb dX9_lasts_100 (by decide) ?_
            have hK := leafK hB hK
            have hK := elimR hK
            have hK : (z6_0, z6_3, z6_4, z6_5) = R0 := hK
            subst hK
            exact W.iret (v := z6_0) hx hb hr (fun t ht hW => ⟨⟨_, (), rfl, rfl, by rw [ht]; exact hP, hD⟩, hS.F ht⟩) hS.2.2 dX9_lasts_104
        · have hB := ifN c_8 hB
          refine lv_aload_n hx hb dX9_lasts_47 rfl (lv_at hl 0 rfl) ?_
          refine lv_iload hx hb dX9_lasts_48 (lv_at hl 4 rfl) ?_
          refine lv_aload_n hx hb dX9_lasts_50 rfl (lv_at hl 0 rfl) ?_
          obtain ⟨q10, hq10, hB⟩ := bnd hB
          refine kr_V (WC := wd_X9_boughtIn cs a_t a_t_text a_t_opinions a_t_lines a_t_draftBook a_t_scribes a_t_turn a_t_bent a_t_need a_t_now a_t_isKept a_t_far a_t_marginOf a_t_marginSays v_t_trace v_t_typed v_t_needTold v_t_at v_t_start v_t_sort v_t_value v_t_fault v_t_target z6_3 z6_4 z6_5 v_t_margins g_t_scribes g_t_now) (As := []) (rest := [.int z6_2, .ref a_t]) (r0 := q10) ⟨hx, hb, hml, hown, hg⟩ (k_X9_boughtIn l G cs a_t a_t_text a_t_opinions a_t_lines a_t_draftBook a_t_scribes a_t_turn a_t_bent a_t_need a_t_now a_t_isKept a_t_far a_t_marginOf a_t_marginSays v_t_trace v_t_typed v_t_needTold v_t_at v_t_start v_t_sort v_t_value v_t_fault v_t_target z6_3 z6_4 z6_5 v_t_margins g_t_scribes g_t_now q10 hq10) gM_X9_176 mI_X9_boughtIn (rmk rfl) hP hKT hN 0 rfl rfl [0, 3, 7] rfl rfl hl.1 rfl (Nat.le_of_ble_eq_true rfl) dX9_lasts_51 ?_
          refine lv_sipush (v := 4000) hx hb dX9_lasts_54 (by decide) ?_
          obtain ⟨⟨q11_0, q11_1, q11_2⟩, hq11, hB⟩ := bnd hB
          refine kw_v (WC := wd_X9_go cs a_t a_t_text a_t_opinions a_t_lines a_t_draftBook a_t_scribes a_t_turn a_t_bent a_t_need a_t_now a_t_isKept a_t_far a_t_marginOf a_t_marginSays v_t_trace v_t_typed v_t_needTold v_t_at v_t_start v_t_sort v_t_value v_t_fault v_t_target z6_3 z6_4 z6_5 v_t_margins g_t_opinions g_t_lines g_t_turn g_t_bent g_t_need) (W1 := wd_X9_go cs a_t a_t_text a_t_opinions a_t_lines a_t_draftBook a_t_scribes a_t_turn a_t_bent a_t_need a_t_now a_t_isKept a_t_far a_t_marginOf a_t_marginSays v_t_trace v_t_typed v_t_needTold v_t_at v_t_start v_t_sort v_t_value v_t_fault v_t_target q11_0 q11_1 q11_2 v_t_margins g_t_opinions g_t_lines g_t_turn g_t_bent g_t_need) (W2 := wd_X9_lasts cs a_t a_t_text a_t_opinions a_t_lines a_t_draftBook a_t_scribes a_t_turn a_t_bent a_t_need a_t_now a_t_isKept a_t_far a_t_marginOf a_t_marginSays v_t_trace v_t_typed v_t_needTold v_t_at v_t_start v_t_sort v_t_value v_t_fault v_t_target q11_0 q11_1 q11_2 v_t_margins g_t_opinions g_t_lines g_t_scribes g_t_turn g_t_bent g_t_need g_t_now) (rw_V (As := [.int z6_2, .int q10, .int (4000 : Int32)]) (rest := []) ⟨hx, hb, hml, hown, hg⟩ (k_X9_go l G cs a_t a_t_text a_t_opinions a_t_lines a_t_draftBook a_t_scribes a_t_turn a_t_bent a_t_need a_t_now a_t_isKept a_t_far a_t_marginOf a_t_marginSays v_t_trace v_t_typed v_t_needTold v_t_at v_t_start v_t_sort v_t_value v_t_fault v_t_target z6_3 z6_4 z6_5 v_t_margins g_t_opinions g_t_lines g_t_turn g_t_bent g_t_need z6_2 q10 (4000 : Int32) H.size (q11_0, q11_1, q11_2) hq11) gM_X9_179 mI_X9_go (rmk rfl) hP hD hKT hN 0 rfl rfl [0, 1, 2, 4, 5, 6] rfl rfl rfl hl.1 rfl (Nat.le_of_ble_eq_true rfl) dX9_lasts_57) hP hD hS hA [0, 1, 2, 4, 5, 6] [3, 7] [2, 3, 4, 0, 5, 6, 7, 1] ⟨rfl, rfl, rfl, rfl, rfl, rfl, rfl⟩ (fun H locs hP hD hS => ?_)
          refine lv_aload_n hx hb dX9_lasts_60 rfl (lv_at hl 0 rfl) ?_
          refine va_get (D := G) (ci := 9) (v := .int q11_2) (C := RX9) (T := TX9) (N := 26) hx hb hg inX9 hown hKT hP 0 rfl rfl 21 (by decide) (hg _ gF_X9_173) (fun _ h9 => h9) rfl dX9_lasts_61 ?_
          refine lv_sipush (v := 4000) hx hb dX9_lasts_64 (by decide) ?_
          refine lv_icmp_ne (tgt := 73) hx hb dX9_lasts_67 (by decide) (fun c_12 => ?_) (fun c_12 => ?_)
          · have hB := ifN c_12 hB
            refine lv_aload_n hx hb dX9_lasts_73 rfl (lv_at hl 0 rfl) ?_
            refine va_get (D := G) (ci := 9) (v := .int q11_2) (C := RX9) (T := TX9) (N := 26) hx hb hg inX9 hown hKT hP 0 rfl rfl 21 (by decide) (hg _ gF_X9_173) (fun _ h9 => h9) rfl dX9_lasts_74 ?_
            refine lv_iload_n hx hb dX9_lasts_77 rfl (lv_at hl 3 rfl) ?_
            refine lv_icmp_le (tgt := 89) hx hb dX9_lasts_78 (by decide) (fun c_13 => ?_) (fun c_13 => ?_)
            · have hB := ifP c_13 hB
              refine lv_iinc (v := z6_2 + (1 : Int32)) (lv' := [(4, .int (z6_2 + (1 : Int32))), (0, .ref a_t), (1, .int p1), (2, .int z6_0), (3, .int z6_1)]) hx hb dX9_lasts_89 hl (k := 4) rfl (inc_ok (by decide)) (by decide) rfl (fun ls hl => ?_)
              refine lv_goto (tgt := 38) hx hb dX9_lasts_92 (by decide) ?_
              have hK := leafK hB hK
              have hK := elimL hK
              exact hK H locs hP hD hS ls (lv_sub hl [1, 2, 3, 4, 0] rfl)
            · have hB := ifN c_13 hB
              refine lv_iload hx hb dX9_lasts_81 (lv_at hl 4 rfl) ?_
              refine lv_istore_n (lv' := [(2, .int z6_2), (0, .ref a_t), (1, .int p1), (3, .int z6_1), (4, .int z6_2)]) hx hb dX9_lasts_83 rfl hl (by decide) rfl (fun ls hl => ?_)
              refine lv_aload_n hx hb dX9_lasts_84 rfl (lv_at hl 1 rfl) ?_
              refine va_get (D := G) (ci := 9) (v := .int q11_2) (C := RX9) (T := TX9) (N := 26) hx hb hg inX9 hown hKT hP 0 rfl rfl 21 (by decide) (hg _ gF_X9_173) (fun _ h9 => h9) rfl dX9_lasts_85 ?_
              refine lv_istore_n (lv' := [(3, .int q11_2), (2, .int z6_2), (0, .ref a_t), (1, .int p1), (4, .int z6_2)]) hx hb dX9_lasts_88 rfl hl (by decide) rfl (fun ls hl => ?_)
              refine lv_iinc (v := z6_2 + (1 : Int32)) (lv' := [(4, .int (z6_2 + (1 : Int32))), (3, .int q11_2), (2, .int z6_2), (0, .ref a_t), (1, .int p1)]) hx hb dX9_lasts_89 hl (k := 4) rfl (inc_ok (by decide)) (by decide) rfl (fun ls hl => ?_)
              refine lv_goto (tgt := 38) hx hb dX9_lasts_92 (by decide) ?_
              have hK := leafK hB hK
              have hK := elimL hK
              exact hK H locs hP hD hS ls (lv_sub hl [3, 4, 2, 1, 0] rfl)
          · have hB := ifP c_12 hB
            refine lv_bipush (v := -9) hx hb dX9_lasts_70 (by decide) ?_
            have hK := leafK hB hK
            have hK := elimR hK
            have hK : ((-9 : Int32), q11_0, q11_1, q11_2) = R0 := hK
            subst hK
            exact W.iret (v := (-9 : Int32)) hx hb hr (fun t ht hW => ⟨⟨_, (), rfl, rfl, by rw [ht]; exact hP, hD⟩, hS.F ht⟩) hS.2.2 dX9_lasts_72
      · have hB := ifP c_5 hB
        refine lv_bipush (v := -9) hx hb dX9_lasts_27 (by decide) ?_
        have hK := leafK hB hK
        have hK : ((-9 : Int32), v_t_went, v_t_ender, v_t_had) = R0 := hK
        subst hK
        exact W.iret (v := (-9 : Int32)) hx hb hr (fun t ht hW => ⟨⟨_, (), rfl, rfl, by rw [ht]; exact hP, hD⟩, hS.F ht⟩) hS.2.2 dX9_lasts_29
  · have hB := ifP c_2 hB
    refine lv_iconst (v := -1) hx hb dX9_lasts_9 (by decide) ?_
    have hK := leafK hB hK
    have hK : ((-1 : Int32), v_t_went, v_t_ender, v_t_had) = R0 := hK
    subst hK
    exact W.iret (v := (-1 : Int32)) hx hb hr (fun t ht hW => ⟨⟨_, (), rfl, rfl, by rw [ht]; exact hP, hD⟩, hS.F ht⟩) hS.2.2 dX9_lasts_10
def wd_X9_buy (cs : Nat → ClassId) (a_t a_t_text a_t_opinions a_t_lines a_t_draftBook a_t_scribes a_t_turn a_t_bent a_t_need a_t_now a_t_isKept a_t_far a_t_marginOf a_t_marginSays : Nat) (v_t_trace : Int64) (v_t_typed : Int32) (v_t_needTold : Int32) (v_t_at : Int32) (v_t_start : Int32) (v_t_sort : Int32) (v_t_value : Int32) (v_t_fault : Int32) (v_t_target : Int32) (v_t_went : Int32) (v_t_ender : Int32) (v_t_had : Int32) (v_t_margins : Int32) (g_t_opinions : Nat → Int32) (g_t_lines : Nat → Int32) (g_t_scribes : Nat → Int32) (g_t_turn : Nat → Int32) (g_t_bent : Nat → Int32) (g_t_need : Nat → Int32) (g_t_now : Nat → Int32) : va_W := [(a_t, .inr (9, [.long v_t_trace, .ref a_t_text, .int v_t_typed, .ref a_t_opinions, .ref a_t_lines, .ref a_t_draftBook, .ref a_t_scribes, .ref a_t_turn, .ref a_t_bent, .ref a_t_need, .int v_t_needTold, .int v_t_at, .int v_t_start, .int v_t_sort, .int v_t_value, .int v_t_fault, .ref a_t_now, .ref a_t_isKept, .int v_t_target, .int v_t_went, .int v_t_ender, .int v_t_had, .ref a_t_far, .ref a_t_marginOf, .ref a_t_marginSays, .int v_t_margins])), (a_t_opinions, .inl (cs 0, 2, .inl g_t_opinions)), (a_t_lines, .inl (cs 0, 2, .inl g_t_lines)), (a_t_scribes, .inl (cs 0, 2, .inl g_t_scribes)), (a_t_turn, .inl (cs 0, 12, .inl g_t_turn)), (a_t_bent, .inl (cs 0, 12, .inl g_t_bent)), (a_t_need, .inl (cs 0, 2, .inl g_t_need)), (a_t_now, .inl (cs 0, 300, .inl g_t_now))]
def rm_X9_buy : Room := { frames := 4, cells := 0, slots := 0, locals := 94 }
theorem mI_X9_buy : MI yX9_buy RX9 cX9_buy 4 (some .int) 1 := ⟨gI_X9_buy, gE_X9_buy, gN_X9, gC_X9_buy, by decide +kernel⟩
set_option maxHeartbeats 4000000 in
set_option maxRecDepth 100000 in
theorem k_X9_buy (l : Launch) (G : va_G) (cs : Nat → ClassId) (a_t a_t_text a_t_opinions a_t_lines a_t_draftBook a_t_scribes a_t_turn a_t_bent a_t_need a_t_now a_t_isKept a_t_far a_t_marginOf a_t_marginSays : Nat) (v_t_trace : Int64) (v_t_typed : Int32) (v_t_needTold : Int32) (v_t_at : Int32) (v_t_start : Int32) (v_t_sort : Int32) (v_t_value : Int32) (v_t_fault : Int32) (v_t_target : Int32) (v_t_went : Int32) (v_t_ender : Int32) (v_t_had : Int32) (v_t_margins : Int32) (g_t_opinions : Nat → Int32) (g_t_lines : Nat → Int32) (g_t_scribes : Nat → Int32) (g_t_turn : Nat → Int32) (g_t_bent : Nat → Int32) (g_t_need : Nat → Int32) (g_t_now : Nat → Int32) (p1 : Int32) (sz : Nat) (R0 : Int32 × Int32 × Int32 × Int32) (hB : f_X9_buy v_t_went v_t_ender v_t_had g_t_opinions g_t_lines g_t_scribes g_t_turn g_t_bent g_t_need g_t_now p1 = some R0) : Met l yX9_buy (.code yX9_buy cX9_buy 4 (some .int) :: GW) rm_X9_buy (PcW G cs [.ref a_t, .int p1] (wd_X9_buy cs a_t a_t_text a_t_opinions a_t_lines a_t_draftBook a_t_scribes a_t_turn a_t_bent a_t_need a_t_now a_t_isKept a_t_far a_t_marginOf a_t_marginSays v_t_trace v_t_typed v_t_needTold v_t_at v_t_start v_t_sort v_t_value v_t_fault v_t_target v_t_went v_t_ender v_t_had v_t_margins g_t_opinions g_t_lines g_t_scribes g_t_turn g_t_bent g_t_need g_t_now) sz) (QcI G (va_A (wd_X9_buy cs a_t a_t_text a_t_opinions a_t_lines a_t_draftBook a_t_scribes a_t_turn a_t_bent a_t_need a_t_now a_t_isKept a_t_far a_t_marginOf a_t_marginSays v_t_trace v_t_typed v_t_needTold v_t_at v_t_start v_t_sort v_t_value v_t_fault v_t_target v_t_went v_t_ender v_t_had v_t_margins g_t_opinions g_t_lines g_t_scribes g_t_turn g_t_bent g_t_need g_t_now) sz) (wd_X9_buy cs a_t a_t_text a_t_opinions a_t_lines a_t_draftBook a_t_scribes a_t_turn a_t_bent a_t_need a_t_now a_t_isKept a_t_far a_t_marginOf a_t_marginSays v_t_trace v_t_typed v_t_needTold v_t_at v_t_start v_t_sort v_t_value v_t_fault v_t_target R0.2.1 R0.2.2.1 R0.2.2.2 v_t_margins g_t_opinions g_t_lines g_t_scribes g_t_turn g_t_bent g_t_need g_t_now) R0.1) 0 0 (va_A (wd_X9_buy cs a_t a_t_text a_t_opinions a_t_lines a_t_draftBook a_t_scribes a_t_turn a_t_bent a_t_need a_t_now a_t_isKept a_t_far a_t_marginOf a_t_marginSays v_t_trace v_t_typed v_t_needTold v_t_at v_t_start v_t_sort v_t_value v_t_fault v_t_target v_t_went v_t_ender v_t_had v_t_margins g_t_opinions g_t_lines g_t_scribes g_t_turn g_t_bent g_t_need g_t_now) sz) := by
  refine Met.ofW (cc := cX9_buy) (maxL := 4) (ret := (some .int)) (by decide) rfl ?_
  intro p e s m args below meth c s₁ B hml hv
  obtain ⟨rfl, hsz, hP, hD0, hK, hN⟩ := hv
  have hx := B.exec
  have hb := B.bytes
  have hr := B.returns
  have hts := atoms_spec (ws := .code yX9_buy cX9_buy 4 (some .int) :: GW) B.pre
  have hg : ∀ w ∈ GW, w.before _ s = true := fun w h => hts w (List.mem_cons_of_mem _ h)
  have hown : s.vm.findClass RX9 = some m.cls := findClass_of_methodNamed B.named
  have hlocks := B.notSynchronized
  subst hsz
  have hD := hD0.self (sz := s.heap.size)
  generalize hAe : va_A (wd_X9_buy cs a_t a_t_text a_t_opinions a_t_lines a_t_draftBook a_t_scribes a_t_turn a_t_bent a_t_need a_t_now a_t_isKept a_t_far a_t_marginOf a_t_marginSays v_t_trace v_t_typed v_t_needTold v_t_at v_t_start v_t_sort v_t_value v_t_fault v_t_target v_t_went v_t_ender v_t_had v_t_margins g_t_opinions g_t_lines g_t_scribes g_t_turn g_t_bent g_t_need g_t_now) s.heap.size = A at hD ⊢
  have hA : ∀ q : Nat, s.heap.size ≤ q → A q := fun q h => by rw [← hAe]; exact Or.inr h
  have hS : va_S A s.heap s.heap [] := va_S.rf
  have hl := lv_entry ([.ref a_t, .int p1]) (n := 4) (Nat.le_of_ble_eq_true rfl)
  rw [lg_entry_eq]
  generalize (lg_sl ([.ref a_t, .int p1]) ++ List.replicate (4 - (lg_sl ([.ref a_t, .int p1])).length) Slot.unset).toArray = ls at hl ⊢
  have hl : lv_has ls 4 [(0, .ref a_t), (1, .int p1)] := hl
  obtain ⟨y, hB, hK0⟩ : ∃ y, f_X9_buy v_t_went v_t_ender v_t_had g_t_opinions g_t_lines g_t_scribes g_t_turn g_t_bent g_t_need g_t_now p1 = some y ∧ KEnd R0 y := ⟨R0, hB, rfl⟩
  have hKT := hK
  have hK := hK0
  obtain ⟨H, hHe⟩ : ∃ H, H = s.heap := ⟨_, rfl⟩
  obtain ⟨locs, hLe⟩ : ∃ L : List Loc, L = [] := ⟨_, rfl⟩
  rw [← hHe] at hP
  have hS : va_S A s.heap H locs := by rw [hHe, hLe]; exact hS
  show W p l e rm_X9_buy s m ([.ref a_t, .int p1] : List Value).toArray below meth c s.heap [] 0 0 _ _
  suffices hgo : W p l e rm_X9_buy s m ([.ref a_t, .int p1] : List Value).toArray below meth c H locs 0 0 (MQ below (QcI G A (wd_X9_buy cs a_t a_t_text a_t_opinions a_t_lines a_t_draftBook a_t_scribes a_t_turn a_t_bent a_t_need a_t_now a_t_isKept a_t_far a_t_marginOf a_t_marginSays v_t_trace v_t_typed v_t_needTold v_t_at v_t_start v_t_sort v_t_value v_t_fault v_t_target R0.2.1 R0.2.2.1 R0.2.2.2 v_t_margins g_t_opinions g_t_lines g_t_scribes g_t_turn g_t_bent g_t_need g_t_now) R0.1) ([.ref a_t, .int p1] : List Value).toArray s 0 0 A) (F0 m 0 ls []) by rw [hHe, hLe] at hgo; exact hgo
  refine lv_iload_n hx hb dX9_buy_0 rfl (lv_at hl 1 rfl) ?_
  refine lv_iconst (v := 1) hx hb dX9_buy_1 (by decide) ?_
  refine lv_bipush (v := 99) hx hb dX9_buy_2 (by decide) ?_
  obtain ⟨q1, hq1, hB⟩ := bnd hB
  refine kr_S (WC := wd_X9_in cs ) (As := [.int p1, .int (1 : Int32), .int (99 : Int32)]) (rest := []) (r0 := q1) ⟨hx, hb, hml, hown, hg⟩ (k_X9_in l G cs p1 (1 : Int32) (99 : Int32) q1 hq1) gM_X9_57 mS_X9_in (rmk rfl) hP hKT hN [] rfl rfl hl.1 rfl (Nat.le_of_ble_eq_true rfl) dX9_buy_4 ?_
  refine lv_if_ne (tgt := 12) hx hb dX9_buy_7 (by decide) (fun c_2 => ?_) (fun c_2 => ?_)
  · have hB := ifN c_2 hB
    refine lv_bipush (v := -9) hx hb dX9_buy_12 (by decide) ?_
    refine lv_istore_n (lv' := [(2, .int (-9 : Int32)), (0, .ref a_t), (1, .int p1)]) hx hb dX9_buy_14 rfl hl (by decide) rfl (fun ls hl => ?_)
    refine lv_iconst (v := 0) hx hb dX9_buy_15 (by decide) ?_
    refine lv_istore_n (lv' := [(3, .int (0 : Int32)), (2, .int (-9 : Int32)), (0, .ref a_t), (1, .int p1)]) hx hb dX9_buy_16 rfl hl (by decide) rfl (fun ls hl => ?_)
    refine lp_ind (Wh := fun (z3 : Int32 × Int32 × Int32 × Int32 × Int32) => ∀ (H : Heap) (locs : List Loc), va_P G vwCl (wd_X9_buy cs a_t a_t_text a_t_opinions a_t_lines a_t_draftBook a_t_scribes a_t_turn a_t_bent a_t_need a_t_now a_t_isKept a_t_far a_t_marginOf a_t_marginSays v_t_trace v_t_typed v_t_needTold v_t_at v_t_start v_t_sort v_t_value v_t_fault v_t_target z3.2.2.1 z3.2.2.2.1 z3.2.2.2.2 v_t_margins g_t_opinions g_t_lines g_t_scribes g_t_turn g_t_bent g_t_need g_t_now) H → va_D A (wd_X9_buy cs a_t a_t_text a_t_opinions a_t_lines a_t_draftBook a_t_scribes a_t_turn a_t_bent a_t_need a_t_now a_t_isKept a_t_far a_t_marginOf a_t_marginSays v_t_trace v_t_typed v_t_needTold v_t_at v_t_start v_t_sort v_t_value v_t_fault v_t_target z3.2.2.1 z3.2.2.2.1 z3.2.2.2.2 v_t_margins g_t_opinions g_t_lines g_t_scribes g_t_turn g_t_bent g_t_need g_t_now) → va_S A s.heap H locs → ∀ (ls : Array Slot), lv_has ls 4 [(0, .ref a_t), (1, .int p1), (2, .int z3.1), (3, .int z3.2.1)] → W p l e rm_X9_buy s m ([.ref a_t, .int p1] : List Value).toArray below meth c H locs 0 0 (MQ below (QcI G A (wd_X9_buy cs a_t a_t_text a_t_opinions a_t_lines a_t_draftBook a_t_scribes a_t_turn a_t_bent a_t_need a_t_now a_t_isKept a_t_far a_t_marginOf a_t_marginSays v_t_trace v_t_typed v_t_needTold v_t_at v_t_start v_t_sort v_t_value v_t_fault v_t_target R0.2.1 R0.2.2.1 R0.2.2.2 v_t_margins g_t_opinions g_t_lines g_t_scribes g_t_turn g_t_bent g_t_need g_t_now) R0.1) ([.ref a_t, .int p1] : List Value).toArray s 0 0 A) (F0 m 17 ls [])) ?_ FU _ _ hB hK H locs hP hD hS ls (lv_sub hl [2, 3, 1, 0] rfl)
    rintro ⟨z3_0, z3_1, z3_2, z3_3, z3_4⟩ y hB hK H locs hP hD hS ls hl
    have hl : lv_has ls 4 [(0, .ref a_t), (1, .int p1), (2, .int z3_0), (3, .int z3_1)] := hl
    have hP : va_P G vwCl (wd_X9_buy cs a_t a_t_text a_t_opinions a_t_lines a_t_draftBook a_t_scribes a_t_turn a_t_bent a_t_need a_t_now a_t_isKept a_t_far a_t_marginOf a_t_marginSays v_t_trace v_t_typed v_t_needTold v_t_at v_t_start v_t_sort v_t_value v_t_fault v_t_target z3_2 z3_3 z3_4 v_t_margins g_t_opinions g_t_lines g_t_scribes g_t_turn g_t_bent g_t_need g_t_now) H := hP
    have hD : va_D A (wd_X9_buy cs a_t a_t_text a_t_opinions a_t_lines a_t_draftBook a_t_scribes a_t_turn a_t_bent a_t_need a_t_now a_t_isKept a_t_far a_t_marginOf a_t_marginSays v_t_trace v_t_typed v_t_needTold v_t_at v_t_start v_t_sort v_t_value v_t_fault v_t_target z3_2 z3_3 z3_4 v_t_margins g_t_opinions g_t_lines g_t_scribes g_t_turn g_t_bent g_t_need g_t_now) := hD
    refine lv_iload_n hx hb dX9_buy_17 rfl (lv_at hl 3 rfl) ?_
    refine lv_aload_n hx hb dX9_buy_18 rfl (lv_at hl 0 rfl) ?_
    refine va_get (D := G) (ci := 9) (v := .ref a_t_now) (C := RX9) (T := TX9) (N := 26) hx hb hg inX9 hown hKT hP 0 rfl rfl 16 (by decide) (hg _ gF_X9_35) (fun _ h9 => h9) rfl dX9_buy_19 ?_
    refine lv_bipush (v := 8) hx hb dX9_buy_22 (by decide) ?_
    refine va_iald hx hb hKT hP 7 0 rfl rfl (vinC (by decide)) dX9_buy_24 ?_
    refine lv_icmp_gt (tgt := 96) hx hb dX9_buy_25 (by decide) (fun c_4 => ?_) (fun c_4 => ?_)
    · have hB := ifP c_4 hB
      refine lv_iload_n hx hb dX9_buy_96 rfl (lv_at hl 2 rfl) ?_
      have hK := leafK hB hK
      have hK := elimR hK
      have hK : (z3_0, z3_2, z3_3, z3_4) = R0 := hK
      subst hK
      exact W.iret (v := z3_0) hx hb hr (fun t ht hW => ⟨⟨_, (), rfl, rfl, by rw [ht]; exact hP, hD⟩, hS.F ht⟩) hS.2.2 dX9_buy_97
    · have hB := ifN c_4 hB
      refine lv_iload_n hx hb dX9_buy_28 rfl (lv_at hl 3 rfl) ?_
      refine lv_aload_n hx hb dX9_buy_29 rfl (lv_at hl 0 rfl) ?_
      refine va_get (D := G) (ci := 9) (v := .ref a_t_now) (C := RX9) (T := TX9) (N := 26) hx hb hg inX9 hown hKT hP 0 rfl rfl 16 (by decide) (hg _ gF_X9_35) (fun _ h9 => h9) rfl dX9_buy_30 ?_
      refine lv_bipush (v := 8) hx hb dX9_buy_33 (by decide) ?_
      refine va_iald hx hb hKT hP 7 0 rfl rfl (vinC (by decide)) dX9_buy_35 ?_
      refine lv_iconst (v := -1) hx hb dX9_buy_36 (by decide) ?_
      refine lv_ixor hx hb dX9_buy_37 ?_
      refine lv_iand hx hb dX9_buy_38 ?_
      refine lv_if_ne (tgt := 90) hx hb dX9_buy_39 (by decide) (fun c_5 => ?_) (fun c_5 => ?_)
      · have hB := ifN c_5 hB
        refine lv_iinc (v := z3_1 + (1 : Int32)) (lv' := [(3, .int (z3_1 + (1 : Int32))), (0, .ref a_t), (1, .int p1), (2, .int z3_0)]) hx hb dX9_buy_90 hl (k := 3) rfl (inc_ok (by decide)) (by decide) rfl (fun ls hl => ?_)
        refine lv_goto (tgt := 17) hx hb dX9_buy_93 (by decide) ?_
        have hK := leafK hB hK
        have hK := elimL hK
        exact hK H locs hP hD hS ls (lv_sub hl [1, 2, 3, 0] rfl)
      · have hB := ifP c_5 hB
        refine lv_iload_n hx hb dX9_buy_42 rfl (lv_at hl 2 rfl) ?_
        refine lv_bipush (v := -9) hx hb dX9_buy_43 (by decide) ?_
        refine lv_icmp_eq (tgt := 59) hx hb dX9_buy_45 (by decide) (fun c_6 => ?_) (fun c_6 => ?_)
        · have hB := ifP c_6 hB
          refine lv_aload_n hx hb dX9_buy_59 rfl (lv_at hl 0 rfl) ?_
          refine lv_aload_n hx hb dX9_buy_60 rfl (lv_at hl 0 rfl) ?_
          refine va_get (D := G) (ci := 9) (v := .ref a_t_now) (C := RX9) (T := TX9) (N := 26) hx hb hg inX9 hown hKT hP 0 rfl rfl 16 (by decide) (hg _ gF_X9_35) (fun _ h9 => h9) rfl dX9_buy_61 ?_
          refine lv_iconst (v := 0) hx hb dX9_buy_64 (by decide) ?_
          refine va_iald hx hb hKT hP 7 0 rfl rfl (vinC (by decide)) dX9_buy_65 ?_
          refine lv_aload_n hx hb dX9_buy_66 rfl (lv_at hl 0 rfl) ?_
          obtain ⟨q7, hq7, hB⟩ := bnd hB
          refine kr_V (WC := wd_X9_boughtIn cs a_t a_t_text a_t_opinions a_t_lines a_t_draftBook a_t_scribes a_t_turn a_t_bent a_t_need a_t_now a_t_isKept a_t_far a_t_marginOf a_t_marginSays v_t_trace v_t_typed v_t_needTold v_t_at v_t_start v_t_sort v_t_value v_t_fault v_t_target z3_2 z3_3 z3_4 v_t_margins g_t_scribes g_t_now) (As := []) (rest := [.int (g_t_now (0 : Int32).toNatClampNeg), .ref a_t]) (r0 := q7) ⟨hx, hb, hml, hown, hg⟩ (k_X9_boughtIn l G cs a_t a_t_text a_t_opinions a_t_lines a_t_draftBook a_t_scribes a_t_turn a_t_bent a_t_need a_t_now a_t_isKept a_t_far a_t_marginOf a_t_marginSays v_t_trace v_t_typed v_t_needTold v_t_at v_t_start v_t_sort v_t_value v_t_fault v_t_target z3_2 z3_3 z3_4 v_t_margins g_t_scribes g_t_now q7 hq7) gM_X9_176 mI_X9_boughtIn (rmk rfl) hP hKT hN 0 rfl rfl [0, 3, 7] rfl rfl hl.1 rfl (Nat.le_of_ble_eq_true rfl) dX9_buy_67 ?_
          refine lv_iload_n hx hb dX9_buy_70 rfl (lv_at hl 3 rfl) ?_
          refine lv_ior hx hb dX9_buy_71 ?_
          refine lv_iload_n hx hb dX9_buy_72 rfl (lv_at hl 1 rfl) ?_
          obtain ⟨⟨q8_0, q8_1, q8_2⟩, hq8, hB⟩ := bnd hB
          refine kw_v (WC := wd_X9_go cs a_t a_t_text a_t_opinions a_t_lines a_t_draftBook a_t_scribes a_t_turn a_t_bent a_t_need a_t_now a_t_isKept a_t_far a_t_marginOf a_t_marginSays v_t_trace v_t_typed v_t_needTold v_t_at v_t_start v_t_sort v_t_value v_t_fault v_t_target z3_2 z3_3 z3_4 v_t_margins g_t_opinions g_t_lines g_t_turn g_t_bent g_t_need) (W1 := wd_X9_go cs a_t a_t_text a_t_opinions a_t_lines a_t_draftBook a_t_scribes a_t_turn a_t_bent a_t_need a_t_now a_t_isKept a_t_far a_t_marginOf a_t_marginSays v_t_trace v_t_typed v_t_needTold v_t_at v_t_start v_t_sort v_t_value v_t_fault v_t_target q8_0 q8_1 q8_2 v_t_margins g_t_opinions g_t_lines g_t_turn g_t_bent g_t_need) (W2 := wd_X9_buy cs a_t a_t_text a_t_opinions a_t_lines a_t_draftBook a_t_scribes a_t_turn a_t_bent a_t_need a_t_now a_t_isKept a_t_far a_t_marginOf a_t_marginSays v_t_trace v_t_typed v_t_needTold v_t_at v_t_start v_t_sort v_t_value v_t_fault v_t_target q8_0 q8_1 q8_2 v_t_margins g_t_opinions g_t_lines g_t_scribes g_t_turn g_t_bent g_t_need g_t_now) (rw_V (As := [.int (g_t_now (0 : Int32).toNatClampNeg), .int (q7 ||| z3_1), .int p1]) (rest := []) ⟨hx, hb, hml, hown, hg⟩ (k_X9_go l G cs a_t a_t_text a_t_opinions a_t_lines a_t_draftBook a_t_scribes a_t_turn a_t_bent a_t_need a_t_now a_t_isKept a_t_far a_t_marginOf a_t_marginSays v_t_trace v_t_typed v_t_needTold v_t_at v_t_start v_t_sort v_t_value v_t_fault v_t_target z3_2 z3_3 z3_4 v_t_margins g_t_opinions g_t_lines g_t_turn g_t_bent g_t_need (g_t_now (0 : Int32).toNatClampNeg) (q7 ||| z3_1) p1 H.size (q8_0, q8_1, q8_2) hq8) gM_X9_179 mI_X9_go (rmk rfl) hP hD hKT hN 0 rfl rfl [0, 1, 2, 4, 5, 6] rfl rfl rfl hl.1 rfl (Nat.le_of_ble_eq_true rfl) dX9_buy_73) hP hD hS hA [0, 1, 2, 4, 5, 6] [3, 7] [2, 3, 4, 0, 5, 6, 7, 1] ⟨rfl, rfl, rfl, rfl, rfl, rfl, rfl⟩ (fun H locs hP hD hS => ?_)
          refine lv_aload_n hx hb dX9_buy_76 rfl (lv_at hl 0 rfl) ?_
          refine va_get (D := G) (ci := 9) (v := .int q8_2) (C := RX9) (T := TX9) (N := 26) hx hb hg inX9 hown hKT hP 0 rfl rfl 21 (by decide) (hg _ gF_X9_173) (fun _ h9 => h9) rfl dX9_buy_77 ?_
          refine lv_iload_n hx hb dX9_buy_80 rfl (lv_at hl 1 rfl) ?_
          refine lv_icmp_ne (tgt := 88) hx hb dX9_buy_81 (by decide) (fun c_9 => ?_) (fun c_9 => ?_)
          · have hB := ifN c_9 hB
            refine lv_iload_n hx hb dX9_buy_88 rfl (lv_at hl 2 rfl) ?_
            refine lv_istore_n (lv' := [(2, .int z3_0), (0, .ref a_t), (1, .int p1), (3, .int z3_1)]) hx hb dX9_buy_89 rfl hl (by decide) rfl (fun ls hl => ?_)
            refine lv_iinc (v := z3_1 + (1 : Int32)) (lv' := [(3, .int (z3_1 + (1 : Int32))), (2, .int z3_0), (0, .ref a_t), (1, .int p1)]) hx hb dX9_buy_90 hl (k := 3) rfl (inc_ok (by decide)) (by decide) rfl (fun ls hl => ?_)
            refine lv_goto (tgt := 17) hx hb dX9_buy_93 (by decide) ?_
            have hK := leafK hB hK
            have hK := elimL hK
            exact hK H locs hP hD hS ls (lv_sub hl [2, 3, 1, 0] rfl)
          · have hB := ifP c_9 hB
            refine lv_iload_n hx hb dX9_buy_84 rfl (lv_at hl 3 rfl) ?_
            refine lv_goto (tgt := 89) hx hb dX9_buy_85 (by decide) ?_
            refine lv_istore_n (lv' := [(2, .int z3_1), (0, .ref a_t), (1, .int p1), (3, .int z3_1)]) hx hb dX9_buy_89 rfl hl (by decide) rfl (fun ls hl => ?_)
            refine lv_iinc (v := z3_1 + (1 : Int32)) (lv' := [(3, .int (z3_1 + (1 : Int32))), (2, .int z3_1), (0, .ref a_t), (1, .int p1)]) hx hb dX9_buy_90 hl (k := 3) rfl (inc_ok (by decide)) (by decide) rfl (fun ls hl => ?_)
            refine lv_goto (tgt := 17) hx hb dX9_buy_93 (by decide) ?_
            have hK := leafK hB hK
            have hK := elimL hK
            exact hK H locs hP hD hS ls (lv_sub hl [2, 3, 1, 0] rfl)
        · have hB := ifN c_6 hB
          refine lv_iload_n hx hb dX9_buy_48 rfl (lv_at hl 3 rfl) ?_
          obtain ⟨q10, hq10, hB⟩ := bnd hB
          refine kr_S (WC := wd_X9_manyOf cs ) (As := [.int z3_1]) (rest := []) (r0 := q10) ⟨hx, hb, hml, hown, hg⟩ (k_X9_manyOf l G cs z3_1 q10 hq10) gM_X9_122 mS_X9_manyOf (rmk rfl) hP hKT hN [] rfl rfl hl.1 rfl (Nat.le_of_ble_eq_true rfl) dX9_buy_49 ?_
          refine lv_iload_n hx hb dX9_buy_52 rfl (lv_at hl 2 rfl) ?_
          obtain ⟨q11, hq11, hB⟩ := bnd hB
          refine kr_S (WC := wd_X9_manyOf cs ) (As := [.int z3_0]) (rest := [.int q10]) (r0 := q11) ⟨hx, hb, hml, hown, hg⟩ (k_X9_manyOf l G cs z3_0 q11 hq11) gM_X9_122 mS_X9_manyOf (rmk rfl) hP hKT hN [] rfl rfl hl.1 rfl (Nat.le_of_ble_eq_true rfl) dX9_buy_53 ?_
          refine lv_icmp_ge (tgt := 90) hx hb dX9_buy_56 (by decide) (fun c_12 => ?_) (fun c_12 => ?_)
          · have hB := ifP c_12 hB
            refine lv_iinc (v := z3_1 + (1 : Int32)) (lv' := [(3, .int (z3_1 + (1 : Int32))), (0, .ref a_t), (1, .int p1), (2, .int z3_0)]) hx hb dX9_buy_90 hl (k := 3) rfl (inc_ok (by decide)) (by decide) rfl (fun ls hl => ?_)
            refine lv_goto (tgt := 17) hx hb dX9_buy_93 (by decide) ?_
            have hK := leafK hB hK
            have hK := elimL hK
            exact hK H locs hP hD hS ls (lv_sub hl [1, 2, 3, 0] rfl)
          · have hB := ifN c_12 hB
            refine lv_aload_n hx hb dX9_buy_59 rfl (lv_at hl 0 rfl) ?_
            refine lv_aload_n hx hb dX9_buy_60 rfl (lv_at hl 0 rfl) ?_
            refine va_get (D := G) (ci := 9) (v := .ref a_t_now) (C := RX9) (T := TX9) (N := 26) hx hb hg inX9 hown hKT hP 0 rfl rfl 16 (by decide) (hg _ gF_X9_35) (fun _ h9 => h9) rfl dX9_buy_61 ?_
            refine lv_iconst (v := 0) hx hb dX9_buy_64 (by decide) ?_
            refine va_iald hx hb hKT hP 7 0 rfl rfl (vinC (by decide)) dX9_buy_65 ?_
            refine lv_aload_n hx hb dX9_buy_66 rfl (lv_at hl 0 rfl) ?_
            obtain ⟨q13, hq13, hB⟩ := bnd hB
            refine kr_V (WC := wd_X9_boughtIn cs a_t a_t_text a_t_opinions a_t_lines a_t_draftBook a_t_scribes a_t_turn a_t_bent a_t_need a_t_now a_t_isKept a_t_far a_t_marginOf a_t_marginSays v_t_trace v_t_typed v_t_needTold v_t_at v_t_start v_t_sort v_t_value v_t_fault v_t_target z3_2 z3_3 z3_4 v_t_margins g_t_scribes g_t_now) (As := []) (rest := [.int (g_t_now (0 : Int32).toNatClampNeg), .ref a_t]) (r0 := q13) ⟨hx, hb, hml, hown, hg⟩ (k_X9_boughtIn l G cs a_t a_t_text a_t_opinions a_t_lines a_t_draftBook a_t_scribes a_t_turn a_t_bent a_t_need a_t_now a_t_isKept a_t_far a_t_marginOf a_t_marginSays v_t_trace v_t_typed v_t_needTold v_t_at v_t_start v_t_sort v_t_value v_t_fault v_t_target z3_2 z3_3 z3_4 v_t_margins g_t_scribes g_t_now q13 hq13) gM_X9_176 mI_X9_boughtIn (rmk rfl) hP hKT hN 0 rfl rfl [0, 3, 7] rfl rfl hl.1 rfl (Nat.le_of_ble_eq_true rfl) dX9_buy_67 ?_
            refine lv_iload_n hx hb dX9_buy_70 rfl (lv_at hl 3 rfl) ?_
            refine lv_ior hx hb dX9_buy_71 ?_
            refine lv_iload_n hx hb dX9_buy_72 rfl (lv_at hl 1 rfl) ?_
            obtain ⟨⟨q14_0, q14_1, q14_2⟩, hq14, hB⟩ := bnd hB
            refine kw_v (WC := wd_X9_go cs a_t a_t_text a_t_opinions a_t_lines a_t_draftBook a_t_scribes a_t_turn a_t_bent a_t_need a_t_now a_t_isKept a_t_far a_t_marginOf a_t_marginSays v_t_trace v_t_typed v_t_needTold v_t_at v_t_start v_t_sort v_t_value v_t_fault v_t_target z3_2 z3_3 z3_4 v_t_margins g_t_opinions g_t_lines g_t_turn g_t_bent g_t_need) (W1 := wd_X9_go cs a_t a_t_text a_t_opinions a_t_lines a_t_draftBook a_t_scribes a_t_turn a_t_bent a_t_need a_t_now a_t_isKept a_t_far a_t_marginOf a_t_marginSays v_t_trace v_t_typed v_t_needTold v_t_at v_t_start v_t_sort v_t_value v_t_fault v_t_target q14_0 q14_1 q14_2 v_t_margins g_t_opinions g_t_lines g_t_turn g_t_bent g_t_need) (W2 := wd_X9_buy cs a_t a_t_text a_t_opinions a_t_lines a_t_draftBook a_t_scribes a_t_turn a_t_bent a_t_need a_t_now a_t_isKept a_t_far a_t_marginOf a_t_marginSays v_t_trace v_t_typed v_t_needTold v_t_at v_t_start v_t_sort v_t_value v_t_fault v_t_target q14_0 q14_1 q14_2 v_t_margins g_t_opinions g_t_lines g_t_scribes g_t_turn g_t_bent g_t_need g_t_now) (rw_V (As := [.int (g_t_now (0 : Int32).toNatClampNeg), .int (q13 ||| z3_1), .int p1]) (rest := []) ⟨hx, hb, hml, hown, hg⟩ (k_X9_go l G cs a_t a_t_text a_t_opinions a_t_lines a_t_draftBook a_t_scribes a_t_turn a_t_bent a_t_need a_t_now a_t_isKept a_t_far a_t_marginOf a_t_marginSays v_t_trace v_t_typed v_t_needTold v_t_at v_t_start v_t_sort v_t_value v_t_fault v_t_target z3_2 z3_3 z3_4 v_t_margins g_t_opinions g_t_lines g_t_turn g_t_bent g_t_need (g_t_now (0 : Int32).toNatClampNeg) (q13 ||| z3_1) p1 H.size (q14_0, q14_1, q14_2) hq14) gM_X9_179 mI_X9_go (rmk rfl) hP hD hKT hN 0 rfl rfl [0, 1, 2, 4, 5, 6] rfl rfl rfl hl.1 rfl (Nat.le_of_ble_eq_true rfl) dX9_buy_73) hP hD hS hA [0, 1, 2, 4, 5, 6] [3, 7] [2, 3, 4, 0, 5, 6, 7, 1] ⟨rfl, rfl, rfl, rfl, rfl, rfl, rfl⟩ (fun H locs hP hD hS => ?_)
            refine lv_aload_n hx hb dX9_buy_76 rfl (lv_at hl 0 rfl) ?_
            refine va_get (D := G) (ci := 9) (v := .int q14_2) (C := RX9) (T := TX9) (N := 26) hx hb hg inX9 hown hKT hP 0 rfl rfl 21 (by decide) (hg _ gF_X9_173) (fun _ h9 => h9) rfl dX9_buy_77 ?_
            refine lv_iload_n hx hb dX9_buy_80 rfl (lv_at hl 1 rfl) ?_
            refine lv_icmp_ne (tgt := 88) hx hb dX9_buy_81 (by decide) (fun c_15 => ?_) (fun c_15 => ?_)
            · have hB := ifN c_15 hB
              refine lv_iload_n hx hb dX9_buy_88 rfl (lv_at hl 2 rfl) ?_
              refine lv_istore_n (lv' := [(2, .int z3_0), (0, .ref a_t), (1, .int p1), (3, .int z3_1)]) hx hb dX9_buy_89 rfl hl (by decide) rfl (fun ls hl => ?_)
              refine lv_iinc (v := z3_1 + (1 : Int32)) (lv' := [(3, .int (z3_1 + (1 : Int32))), (2, .int z3_0), (0, .ref a_t), (1, .int p1)]) hx hb dX9_buy_90 hl (k := 3) rfl (inc_ok (by decide)) (by decide) rfl (fun ls hl => ?_)
              refine lv_goto (tgt := 17) hx hb dX9_buy_93 (by decide) ?_
              have hK := leafK hB hK
              have hK := elimL hK
              exact hK H locs hP hD hS ls (lv_sub hl [2, 3, 1, 0] rfl)
            · have hB := ifP c_15 hB
              refine lv_iload_n hx hb dX9_buy_84 rfl (lv_at hl 3 rfl) ?_
              refine lv_goto (tgt := 89) hx hb dX9_buy_85 (by decide) ?_
              refine lv_istore_n (lv' := [(2, .int z3_1), (0, .ref a_t), (1, .int p1), (3, .int z3_1)]) hx hb dX9_buy_89 rfl hl (by decide) rfl (fun ls hl => ?_)
              refine lv_iinc (v := z3_1 + (1 : Int32)) (lv' := [(3, .int (z3_1 + (1 : Int32))), (2, .int z3_1), (0, .ref a_t), (1, .int p1)]) hx hb dX9_buy_90 hl (k := 3) rfl (inc_ok (by decide)) (by decide) rfl (fun ls hl => ?_)
              refine lv_goto (tgt := 17) hx hb dX9_buy_93 (by decide) ?_
              have hK := leafK hB hK
              have hK := elimL hK
              exact hK H locs hP hD hS ls (lv_sub hl [2, 3, 1, 0] rfl)
  · have hB := ifP c_2 hB
    refine lv_iconst (v := -1) hx hb dX9_buy_10 (by decide) ?_
    have hK := leafK hB hK
    have hK : ((-1 : Int32), v_t_went, v_t_ender, v_t_had) = R0 := hK
    subst hK
    exact W.iret (v := (-1 : Int32)) hx hb hr (fun t ht hW => ⟨⟨_, (), rfl, rfl, by rw [ht]; exact hP, hD⟩, hS.F ht⟩) hS.2.2 dX9_buy_11
def wd_X9_odds (cs : Nat → ClassId) (a_t a_t_text a_t_opinions a_t_lines a_t_draftBook a_t_scribes a_t_turn a_t_bent a_t_need a_t_now a_t_isKept a_t_far a_t_marginOf a_t_marginSays : Nat) (v_t_trace : Int64) (v_t_typed : Int32) (v_t_needTold : Int32) (v_t_at : Int32) (v_t_start : Int32) (v_t_sort : Int32) (v_t_value : Int32) (v_t_fault : Int32) (v_t_target : Int32) (v_t_went : Int32) (v_t_ender : Int32) (v_t_had : Int32) (v_t_margins : Int32) (g_t_opinions : Nat → Int32) (g_t_lines : Nat → Int32) (g_t_scribes : Nat → Int32) (g_t_turn : Nat → Int32) (g_t_bent : Nat → Int32) (g_t_need : Nat → Int32) (g_t_now : Nat → Int32) : va_W := [(a_t, .inr (9, [.long v_t_trace, .ref a_t_text, .int v_t_typed, .ref a_t_opinions, .ref a_t_lines, .ref a_t_draftBook, .ref a_t_scribes, .ref a_t_turn, .ref a_t_bent, .ref a_t_need, .int v_t_needTold, .int v_t_at, .int v_t_start, .int v_t_sort, .int v_t_value, .int v_t_fault, .ref a_t_now, .ref a_t_isKept, .int v_t_target, .int v_t_went, .int v_t_ender, .int v_t_had, .ref a_t_far, .ref a_t_marginOf, .ref a_t_marginSays, .int v_t_margins])), (a_t_opinions, .inl (cs 0, 2, .inl g_t_opinions)), (a_t_lines, .inl (cs 0, 2, .inl g_t_lines)), (a_t_scribes, .inl (cs 0, 2, .inl g_t_scribes)), (a_t_turn, .inl (cs 0, 12, .inl g_t_turn)), (a_t_bent, .inl (cs 0, 12, .inl g_t_bent)), (a_t_need, .inl (cs 0, 2, .inl g_t_need)), (a_t_now, .inl (cs 0, 300, .inl g_t_now))]
def rm_X9_odds : Room := { frames := 4, cells := 0, slots := 0, locals := 94 }
theorem mI_X9_odds : MI yX9_odds RX9 cX9_odds 9 (some .int) 3 := ⟨gI_X9_odds, gE_X9_odds, gN_X9, gC_X9_odds, by decide +kernel⟩
set_option maxHeartbeats 4000000 in
set_option maxRecDepth 100000 in
theorem k_X9_odds (l : Launch) (G : va_G) (cs : Nat → ClassId) (a_t a_t_text a_t_opinions a_t_lines a_t_draftBook a_t_scribes a_t_turn a_t_bent a_t_need a_t_now a_t_isKept a_t_far a_t_marginOf a_t_marginSays : Nat) (v_t_trace : Int64) (v_t_typed : Int32) (v_t_needTold : Int32) (v_t_at : Int32) (v_t_start : Int32) (v_t_sort : Int32) (v_t_value : Int32) (v_t_fault : Int32) (v_t_target : Int32) (v_t_went : Int32) (v_t_ender : Int32) (v_t_had : Int32) (v_t_margins : Int32) (g_t_opinions : Nat → Int32) (g_t_lines : Nat → Int32) (g_t_scribes : Nat → Int32) (g_t_turn : Nat → Int32) (g_t_bent : Nat → Int32) (g_t_need : Nat → Int32) (g_t_now : Nat → Int32) (p1 p2 p3 : Int32) (sz : Nat) (R0 : Int32 × Int32 × Int32 × Int32) (hB : f_X9_odds v_t_went v_t_ender v_t_had g_t_opinions g_t_lines g_t_scribes g_t_turn g_t_bent g_t_need g_t_now p1 p2 p3 = some R0) : Met l yX9_odds (.code yX9_odds cX9_odds 9 (some .int) :: GW) rm_X9_odds (PcW G cs [.ref a_t, .int p1, .int p2, .int p3] (wd_X9_odds cs a_t a_t_text a_t_opinions a_t_lines a_t_draftBook a_t_scribes a_t_turn a_t_bent a_t_need a_t_now a_t_isKept a_t_far a_t_marginOf a_t_marginSays v_t_trace v_t_typed v_t_needTold v_t_at v_t_start v_t_sort v_t_value v_t_fault v_t_target v_t_went v_t_ender v_t_had v_t_margins g_t_opinions g_t_lines g_t_scribes g_t_turn g_t_bent g_t_need g_t_now) sz) (QcI G (va_A (wd_X9_odds cs a_t a_t_text a_t_opinions a_t_lines a_t_draftBook a_t_scribes a_t_turn a_t_bent a_t_need a_t_now a_t_isKept a_t_far a_t_marginOf a_t_marginSays v_t_trace v_t_typed v_t_needTold v_t_at v_t_start v_t_sort v_t_value v_t_fault v_t_target v_t_went v_t_ender v_t_had v_t_margins g_t_opinions g_t_lines g_t_scribes g_t_turn g_t_bent g_t_need g_t_now) sz) (wd_X9_odds cs a_t a_t_text a_t_opinions a_t_lines a_t_draftBook a_t_scribes a_t_turn a_t_bent a_t_need a_t_now a_t_isKept a_t_far a_t_marginOf a_t_marginSays v_t_trace v_t_typed v_t_needTold v_t_at v_t_start v_t_sort v_t_value v_t_fault v_t_target R0.2.1 R0.2.2.1 R0.2.2.2 v_t_margins g_t_opinions g_t_lines g_t_scribes g_t_turn g_t_bent g_t_need g_t_now) R0.1) 0 0 (va_A (wd_X9_odds cs a_t a_t_text a_t_opinions a_t_lines a_t_draftBook a_t_scribes a_t_turn a_t_bent a_t_need a_t_now a_t_isKept a_t_far a_t_marginOf a_t_marginSays v_t_trace v_t_typed v_t_needTold v_t_at v_t_start v_t_sort v_t_value v_t_fault v_t_target v_t_went v_t_ender v_t_had v_t_margins g_t_opinions g_t_lines g_t_scribes g_t_turn g_t_bent g_t_need g_t_now) sz) := by
  refine Met.ofW (cc := cX9_odds) (maxL := 9) (ret := (some .int)) (by decide) rfl ?_
  intro p e s m args below meth c s₁ B hml hv
  obtain ⟨rfl, hsz, hP, hD0, hK, hN⟩ := hv
  have hx := B.exec
  have hb := B.bytes
  have hr := B.returns
  have hts := atoms_spec (ws := .code yX9_odds cX9_odds 9 (some .int) :: GW) B.pre
  have hg : ∀ w ∈ GW, w.before _ s = true := fun w h => hts w (List.mem_cons_of_mem _ h)
  have hown : s.vm.findClass RX9 = some m.cls := findClass_of_methodNamed B.named
  have hlocks := B.notSynchronized
  subst hsz
  have hD := hD0.self (sz := s.heap.size)
  generalize hAe : va_A (wd_X9_odds cs a_t a_t_text a_t_opinions a_t_lines a_t_draftBook a_t_scribes a_t_turn a_t_bent a_t_need a_t_now a_t_isKept a_t_far a_t_marginOf a_t_marginSays v_t_trace v_t_typed v_t_needTold v_t_at v_t_start v_t_sort v_t_value v_t_fault v_t_target v_t_went v_t_ender v_t_had v_t_margins g_t_opinions g_t_lines g_t_scribes g_t_turn g_t_bent g_t_need g_t_now) s.heap.size = A at hD ⊢
  have hA : ∀ q : Nat, s.heap.size ≤ q → A q := fun q h => by rw [← hAe]; exact Or.inr h
  have hS : va_S A s.heap s.heap [] := va_S.rf
  have hl := lv_entry ([.ref a_t, .int p1, .int p2, .int p3]) (n := 9) (Nat.le_of_ble_eq_true rfl)
  rw [lg_entry_eq]
  generalize (lg_sl ([.ref a_t, .int p1, .int p2, .int p3]) ++ List.replicate (9 - (lg_sl ([.ref a_t, .int p1, .int p2, .int p3])).length) Slot.unset).toArray = ls at hl ⊢
  have hl : lv_has ls 9 [(0, .ref a_t), (1, .int p1), (2, .int p2), (3, .int p3)] := hl
  obtain ⟨y, hB, hK0⟩ : ∃ y, f_X9_odds v_t_went v_t_ender v_t_had g_t_opinions g_t_lines g_t_scribes g_t_turn g_t_bent g_t_need g_t_now p1 p2 p3 = some y ∧ KEnd R0 y := ⟨R0, hB, rfl⟩
  have hKT := hK
  have hK := hK0
  obtain ⟨H, hHe⟩ : ∃ H, H = s.heap := ⟨_, rfl⟩
  obtain ⟨locs, hLe⟩ : ∃ L : List Loc, L = [] := ⟨_, rfl⟩
  rw [← hHe] at hP
  have hS : va_S A s.heap H locs := by rw [hHe, hLe]; exact hS
  show W p l e rm_X9_odds s m ([.ref a_t, .int p1, .int p2, .int p3] : List Value).toArray below meth c s.heap [] 0 0 _ _
  suffices hgo : W p l e rm_X9_odds s m ([.ref a_t, .int p1, .int p2, .int p3] : List Value).toArray below meth c H locs 0 0 (MQ below (QcI G A (wd_X9_odds cs a_t a_t_text a_t_opinions a_t_lines a_t_draftBook a_t_scribes a_t_turn a_t_bent a_t_need a_t_now a_t_isKept a_t_far a_t_marginOf a_t_marginSays v_t_trace v_t_typed v_t_needTold v_t_at v_t_start v_t_sort v_t_value v_t_fault v_t_target R0.2.1 R0.2.2.1 R0.2.2.2 v_t_margins g_t_opinions g_t_lines g_t_scribes g_t_turn g_t_bent g_t_need g_t_now) R0.1) ([.ref a_t, .int p1, .int p2, .int p3] : List Value).toArray s 0 0 A) (F0 m 0 ls []) by rw [hHe, hLe] at hgo; exact hgo
  refine lv_iload_n hx hb dX9_odds_0 rfl (lv_at hl 1 rfl) ?_
  refine lv_iconst (v := 0) hx hb dX9_odds_1 (by decide) ?_
  refine lv_bipush (v := 10) hx hb dX9_odds_2 (by decide) ?_
  obtain ⟨q1, hq1, hB⟩ := bnd hB
  refine kr_S (WC := wd_X9_in cs ) (As := [.int p1, .int (0 : Int32), .int (10 : Int32)]) (rest := []) (r0 := q1) ⟨hx, hb, hml, hown, hg⟩ (k_X9_in l G cs p1 (0 : Int32) (10 : Int32) q1 hq1) gM_X9_57 mS_X9_in (rmk rfl) hP hKT hN [] rfl rfl hl.1 rfl (Nat.le_of_ble_eq_true rfl) dX9_odds_4 ?_
  refine lv_if_eq (tgt := 29) hx hb dX9_odds_7 (by decide) (fun c_2 => ?_) (fun c_2 => ?_)
  · have hB := ifP c_2 hB
    refine lv_iconst (v := -1) hx hb dX9_odds_29 (by decide) ?_
    have hK := leafK hB hK
    have hK : ((-1 : Int32), v_t_went, v_t_ender, v_t_had) = R0 := hK
    subst hK
    exact W.iret (v := (-1 : Int32)) hx hb hr (fun t ht hW => ⟨⟨_, (), rfl, rfl, by rw [ht]; exact hP, hD⟩, hS.F ht⟩) hS.2.2 dX9_odds_30
  · have hB := ifN c_2 hB
    refine lv_iload_n hx hb dX9_odds_10 rfl (lv_at hl 2 rfl) ?_
    refine lv_iconst (v := 0) hx hb dX9_odds_11 (by decide) ?_
    refine lv_bipush (v := 9) hx hb dX9_odds_12 (by decide) ?_
    obtain ⟨q3, hq3, hB⟩ := bnd hB
    refine kr_S (WC := wd_X9_in cs ) (As := [.int p2, .int (0 : Int32), .int (9 : Int32)]) (rest := []) (r0 := q3) ⟨hx, hb, hml, hown, hg⟩ (k_X9_in l G cs p2 (0 : Int32) (9 : Int32) q3 hq3) gM_X9_57 mS_X9_in (rmk rfl) hP hKT hN [] rfl rfl hl.1 rfl (Nat.le_of_ble_eq_true rfl) dX9_odds_14 ?_
    refine lv_if_eq (tgt := 29) hx hb dX9_odds_17 (by decide) (fun c_4 => ?_) (fun c_4 => ?_)
    · have hB := ifP c_4 hB
      refine lv_iconst (v := -1) hx hb dX9_odds_29 (by decide) ?_
      have hK := leafK hB hK
      have hK : ((-1 : Int32), v_t_went, v_t_ender, v_t_had) = R0 := hK
      subst hK
      exact W.iret (v := (-1 : Int32)) hx hb hr (fun t ht hW => ⟨⟨_, (), rfl, rfl, by rw [ht]; exact hP, hD⟩, hS.F ht⟩) hS.2.2 dX9_odds_30
    · have hB := ifN c_4 hB
      refine lv_iload_n hx hb dX9_odds_20 rfl (lv_at hl 3 rfl) ?_
      refine lv_iconst (v := 0) hx hb dX9_odds_21 (by decide) ?_
      refine lv_iconst (v := 1) hx hb dX9_odds_22 (by decide) ?_
      obtain ⟨q5, hq5, hB⟩ := bnd hB
      refine kr_S (WC := wd_X9_in cs ) (As := [.int p3, .int (0 : Int32), .int (1 : Int32)]) (rest := []) (r0 := q5) ⟨hx, hb, hml, hown, hg⟩ (k_X9_in l G cs p3 (0 : Int32) (1 : Int32) q5 hq5) gM_X9_57 mS_X9_in (rmk rfl) hP hKT hN [] rfl rfl hl.1 rfl (Nat.le_of_ble_eq_true rfl) dX9_odds_23 ?_
      refine lv_if_ne (tgt := 31) hx hb dX9_odds_26 (by decide) (fun c_6 => ?_) (fun c_6 => ?_)
      · have hB := ifN c_6 hB
        refine lv_aload_n hx hb dX9_odds_31 rfl (lv_at hl 0 rfl) ?_
        refine lv_aload_n hx hb dX9_odds_32 rfl (lv_at hl 0 rfl) ?_
        refine va_get (D := G) (ci := 9) (v := .ref a_t_now) (C := RX9) (T := TX9) (N := 26) hx hb hg inX9 hown hKT hP 0 rfl rfl 16 (by decide) (hg _ gF_X9_35) (fun _ h9 => h9) rfl dX9_odds_33 ?_
        refine lv_iconst (v := 0) hx hb dX9_odds_36 (by decide) ?_
        refine va_iald hx hb hKT hP 7 0 rfl rfl (vinC (by decide)) dX9_odds_37 ?_
        refine lv_aload_n hx hb dX9_odds_38 rfl (lv_at hl 0 rfl) ?_
        obtain ⟨q7, hq7, hB⟩ := bnd hB
        refine kr_V (WC := wd_X9_boughtIn cs a_t a_t_text a_t_opinions a_t_lines a_t_draftBook a_t_scribes a_t_turn a_t_bent a_t_need a_t_now a_t_isKept a_t_far a_t_marginOf a_t_marginSays v_t_trace v_t_typed v_t_needTold v_t_at v_t_start v_t_sort v_t_value v_t_fault v_t_target v_t_went v_t_ender v_t_had v_t_margins g_t_scribes g_t_now) (As := []) (rest := [.int (g_t_now (0 : Int32).toNatClampNeg), .ref a_t]) (r0 := q7) ⟨hx, hb, hml, hown, hg⟩ (k_X9_boughtIn l G cs a_t a_t_text a_t_opinions a_t_lines a_t_draftBook a_t_scribes a_t_turn a_t_bent a_t_need a_t_now a_t_isKept a_t_far a_t_marginOf a_t_marginSays v_t_trace v_t_typed v_t_needTold v_t_at v_t_start v_t_sort v_t_value v_t_fault v_t_target v_t_went v_t_ender v_t_had v_t_margins g_t_scribes g_t_now q7 hq7) gM_X9_176 mI_X9_boughtIn (rmk rfl) hP hKT hN 0 rfl rfl [0, 3, 7] rfl rfl hl.1 rfl (Nat.le_of_ble_eq_true rfl) dX9_odds_39 ?_
        refine lv_iload_n hx hb dX9_odds_42 rfl (lv_at hl 2 rfl) ?_
        obtain ⟨⟨q8_0, q8_1, q8_2⟩, hq8, hB⟩ := bnd hB
        refine kw_v (WC := wd_X9_go cs a_t a_t_text a_t_opinions a_t_lines a_t_draftBook a_t_scribes a_t_turn a_t_bent a_t_need a_t_now a_t_isKept a_t_far a_t_marginOf a_t_marginSays v_t_trace v_t_typed v_t_needTold v_t_at v_t_start v_t_sort v_t_value v_t_fault v_t_target v_t_went v_t_ender v_t_had v_t_margins g_t_opinions g_t_lines g_t_turn g_t_bent g_t_need) (W1 := wd_X9_go cs a_t a_t_text a_t_opinions a_t_lines a_t_draftBook a_t_scribes a_t_turn a_t_bent a_t_need a_t_now a_t_isKept a_t_far a_t_marginOf a_t_marginSays v_t_trace v_t_typed v_t_needTold v_t_at v_t_start v_t_sort v_t_value v_t_fault v_t_target q8_0 q8_1 q8_2 v_t_margins g_t_opinions g_t_lines g_t_turn g_t_bent g_t_need) (W2 := wd_X9_odds cs a_t a_t_text a_t_opinions a_t_lines a_t_draftBook a_t_scribes a_t_turn a_t_bent a_t_need a_t_now a_t_isKept a_t_far a_t_marginOf a_t_marginSays v_t_trace v_t_typed v_t_needTold v_t_at v_t_start v_t_sort v_t_value v_t_fault v_t_target q8_0 q8_1 q8_2 v_t_margins g_t_opinions g_t_lines g_t_scribes g_t_turn g_t_bent g_t_need g_t_now) (rw_V (As := [.int (g_t_now (0 : Int32).toNatClampNeg), .int q7, .int p2]) (rest := []) ⟨hx, hb, hml, hown, hg⟩ (k_X9_go l G cs a_t a_t_text a_t_opinions a_t_lines a_t_draftBook a_t_scribes a_t_turn a_t_bent a_t_need a_t_now a_t_isKept a_t_far a_t_marginOf a_t_marginSays v_t_trace v_t_typed v_t_needTold v_t_at v_t_start v_t_sort v_t_value v_t_fault v_t_target v_t_went v_t_ender v_t_had v_t_margins g_t_opinions g_t_lines g_t_turn g_t_bent g_t_need (g_t_now (0 : Int32).toNatClampNeg) q7 p2 H.size (q8_0, q8_1, q8_2) hq8) gM_X9_179 mI_X9_go (rmk rfl) hP hD hKT hN 0 rfl rfl [0, 1, 2, 4, 5, 6] rfl rfl rfl hl.1 rfl (Nat.le_of_ble_eq_true rfl) dX9_odds_43) hP hD hS hA [0, 1, 2, 4, 5, 6] [3, 7] [2, 3, 4, 0, 5, 6, 7, 1] ⟨rfl, rfl, rfl, rfl, rfl, rfl, rfl⟩ (fun H locs hP hD hS => ?_)
        refine lv_aload_n hx hb dX9_odds_46 rfl (lv_at hl 0 rfl) ?_
        refine va_get (D := G) (ci := 9) (v := .int q8_2) (C := RX9) (T := TX9) (N := 26) hx hb hg inX9 hown hKT hP 0 rfl rfl 21 (by decide) (hg _ gF_X9_173) (fun _ h9 => h9) rfl dX9_odds_47 ?_
        refine lv_iload_n hx hb dX9_odds_50 rfl (lv_at hl 2 rfl) ?_
        refine lv_icmp_ne (tgt := 58) hx hb dX9_odds_51 (by decide) (fun c_9 => ?_) (fun c_9 => ?_)
        · have hB := ifN c_9 hB
          refine lv_iconst (v := 0) hx hb dX9_odds_58 (by decide) ?_
          refine lv_istore (lv' := [(4, .int (0 : Int32)), (0, .ref a_t), (1, .int p1), (2, .int p2), (3, .int p3)]) hx hb dX9_odds_59 hl (by decide) rfl (fun ls hl => ?_)
          refine lv_iconst (v := 1) hx hb dX9_odds_61 (by decide) ?_
          refine lv_istore (lv' := [(5, .int (1 : Int32)), (4, .int (0 : Int32)), (0, .ref a_t), (1, .int p1), (2, .int p2), (3, .int p3)]) hx hb dX9_odds_62 hl (by decide) rfl (fun ls hl => ?_)
          refine lv_iconst (v := 0) hx hb dX9_odds_64 (by decide) ?_
          refine lv_istore (lv' := [(6, .int (0 : Int32)), (5, .int (1 : Int32)), (4, .int (0 : Int32)), (0, .ref a_t), (1, .int p1), (2, .int p2), (3, .int p3)]) hx hb dX9_odds_65 hl (by decide) rfl (fun ls hl => ?_)
          refine lp_ind (Wh := fun (z10 : Int32 × Int32 × Int32) => ∀ (H : Heap) (locs : List Loc), va_P G vwCl (wd_X9_odds cs a_t a_t_text a_t_opinions a_t_lines a_t_draftBook a_t_scribes a_t_turn a_t_bent a_t_need a_t_now a_t_isKept a_t_far a_t_marginOf a_t_marginSays v_t_trace v_t_typed v_t_needTold v_t_at v_t_start v_t_sort v_t_value v_t_fault v_t_target q8_0 q8_1 q8_2 v_t_margins g_t_opinions g_t_lines g_t_scribes g_t_turn g_t_bent g_t_need g_t_now) H → va_D A (wd_X9_odds cs a_t a_t_text a_t_opinions a_t_lines a_t_draftBook a_t_scribes a_t_turn a_t_bent a_t_need a_t_now a_t_isKept a_t_far a_t_marginOf a_t_marginSays v_t_trace v_t_typed v_t_needTold v_t_at v_t_start v_t_sort v_t_value v_t_fault v_t_target q8_0 q8_1 q8_2 v_t_margins g_t_opinions g_t_lines g_t_scribes g_t_turn g_t_bent g_t_need g_t_now) → va_S A s.heap H locs → ∀ (ls : Array Slot), lv_has ls 9 [(1, .int p1), (2, .int p2), (3, .int p3), (4, .int z10.1), (5, .int z10.2.1), (6, .int z10.2.2)] → W p l e rm_X9_odds s m ([.ref a_t, .int p1, .int p2, .int p3] : List Value).toArray below meth c H locs 0 0 (MQ below (QcI G A (wd_X9_odds cs a_t a_t_text a_t_opinions a_t_lines a_t_draftBook a_t_scribes a_t_turn a_t_bent a_t_need a_t_now a_t_isKept a_t_far a_t_marginOf a_t_marginSays v_t_trace v_t_typed v_t_needTold v_t_at v_t_start v_t_sort v_t_value v_t_fault v_t_target R0.2.1 R0.2.2.1 R0.2.2.2 v_t_margins g_t_opinions g_t_lines g_t_scribes g_t_turn g_t_bent g_t_need g_t_now) R0.1) ([.ref a_t, .int p1, .int p2, .int p3] : List Value).toArray s 0 0 A) (F0 m 67 ls [])) ?_ FU _ _ hB hK H locs hP hD hS ls (lv_sub hl [4, 5, 6, 2, 1, 0] rfl)
          rintro ⟨z10_0, z10_1, z10_2⟩ y hB hK H locs hP hD hS ls hl
          have hl : lv_has ls 9 [(1, .int p1), (2, .int p2), (3, .int p3), (4, .int z10_0), (5, .int z10_1), (6, .int z10_2)] := hl
          have hP : va_P G vwCl (wd_X9_odds cs a_t a_t_text a_t_opinions a_t_lines a_t_draftBook a_t_scribes a_t_turn a_t_bent a_t_need a_t_now a_t_isKept a_t_far a_t_marginOf a_t_marginSays v_t_trace v_t_typed v_t_needTold v_t_at v_t_start v_t_sort v_t_value v_t_fault v_t_target q8_0 q8_1 q8_2 v_t_margins g_t_opinions g_t_lines g_t_scribes g_t_turn g_t_bent g_t_need g_t_now) H := hP
          have hD : va_D A (wd_X9_odds cs a_t a_t_text a_t_opinions a_t_lines a_t_draftBook a_t_scribes a_t_turn a_t_bent a_t_need a_t_now a_t_isKept a_t_far a_t_marginOf a_t_marginSays v_t_trace v_t_typed v_t_needTold v_t_at v_t_start v_t_sort v_t_value v_t_fault v_t_target q8_0 q8_1 q8_2 v_t_margins g_t_opinions g_t_lines g_t_scribes g_t_turn g_t_bent g_t_need g_t_now) := hD
          refine lv_iload hx hb dX9_odds_67 (lv_at hl 5 rfl) ?_
          refine lv_iload_n hx hb dX9_odds_69 rfl (lv_at hl 1 rfl) ?_
          refine lv_icmp_ge (tgt := 95) hx hb dX9_odds_70 (by decide) (fun c_11 => ?_) (fun c_11 => ?_)
          · have hB := ifP c_11 hB
            refine lv_iload hx hb dX9_odds_95 (lv_at hl 3 rfl) ?_
            refine lv_istore (lv' := [(6, .int z10_0), (1, .int p1), (2, .int p2), (3, .int p3), (4, .int z10_0), (5, .int z10_1)]) hx hb dX9_odds_97 hl (by decide) rfl (fun ls hl => ?_)
            refine lv_iload hx hb dX9_odds_99 (lv_at hl 5 rfl) ?_
            refine lv_istore (lv' := [(7, .int z10_1), (6, .int z10_0), (1, .int p1), (2, .int p2), (3, .int p3), (4, .int z10_0), (5, .int z10_1)]) hx hb dX9_odds_101 hl (by decide) rfl (fun ls hl => ?_)
            obtain ⟨y12, hB, hy12⟩ := bnd hB
            have hK := leafK hy12 hK
            have hK := elimR hK
            refine lp_ind (Wh := fun (z13 : Int32 × Int32) => ∀ (H : Heap) (locs : List Loc), va_P G vwCl (wd_X9_odds cs a_t a_t_text a_t_opinions a_t_lines a_t_draftBook a_t_scribes a_t_turn a_t_bent a_t_need a_t_now a_t_isKept a_t_far a_t_marginOf a_t_marginSays v_t_trace v_t_typed v_t_needTold v_t_at v_t_start v_t_sort v_t_value v_t_fault v_t_target q8_0 q8_1 q8_2 v_t_margins g_t_opinions g_t_lines g_t_scribes g_t_turn g_t_bent g_t_need g_t_now) H → va_D A (wd_X9_odds cs a_t a_t_text a_t_opinions a_t_lines a_t_draftBook a_t_scribes a_t_turn a_t_bent a_t_need a_t_now a_t_isKept a_t_far a_t_marginOf a_t_marginSays v_t_trace v_t_typed v_t_needTold v_t_at v_t_start v_t_sort v_t_value v_t_fault v_t_target q8_0 q8_1 q8_2 v_t_margins g_t_opinions g_t_lines g_t_scribes g_t_turn g_t_bent g_t_need g_t_now) → va_S A s.heap H locs → ∀ (ls : Array Slot), lv_has ls 9 [(3, .int p3), (4, .int z10_0), (5, .int z10_1), (6, .int z13.1), (7, .int z13.2)] → W p l e rm_X9_odds s m ([.ref a_t, .int p1, .int p2, .int p3] : List Value).toArray below meth c H locs 0 0 (MQ below (QcI G A (wd_X9_odds cs a_t a_t_text a_t_opinions a_t_lines a_t_draftBook a_t_scribes a_t_turn a_t_bent a_t_need a_t_now a_t_isKept a_t_far a_t_marginOf a_t_marginSays v_t_trace v_t_typed v_t_needTold v_t_at v_t_start v_t_sort v_t_value v_t_fault v_t_target R0.2.1 R0.2.2.1 R0.2.2.2 v_t_margins g_t_opinions g_t_lines g_t_scribes g_t_turn g_t_bent g_t_need g_t_now) R0.1) ([.ref a_t, .int p1, .int p2, .int p3] : List Value).toArray s 0 0 A) (F0 m 103 ls [])) ?_ FU _ _ hB hK H locs hP hD hS ls (lv_sub hl [4, 5, 6, 1, 0] rfl)
            rintro ⟨z13_0, z13_1⟩ y hB hK H locs hP hD hS ls hl
            have hl : lv_has ls 9 [(3, .int p3), (4, .int z10_0), (5, .int z10_1), (6, .int z13_0), (7, .int z13_1)] := hl
            have hP : va_P G vwCl (wd_X9_odds cs a_t a_t_text a_t_opinions a_t_lines a_t_draftBook a_t_scribes a_t_turn a_t_bent a_t_need a_t_now a_t_isKept a_t_far a_t_marginOf a_t_marginSays v_t_trace v_t_typed v_t_needTold v_t_at v_t_start v_t_sort v_t_value v_t_fault v_t_target q8_0 q8_1 q8_2 v_t_margins g_t_opinions g_t_lines g_t_scribes g_t_turn g_t_bent g_t_need g_t_now) H := hP
            have hD : va_D A (wd_X9_odds cs a_t a_t_text a_t_opinions a_t_lines a_t_draftBook a_t_scribes a_t_turn a_t_bent a_t_need a_t_now a_t_isKept a_t_far a_t_marginOf a_t_marginSays v_t_trace v_t_typed v_t_needTold v_t_at v_t_start v_t_sort v_t_value v_t_fault v_t_target q8_0 q8_1 q8_2 v_t_margins g_t_opinions g_t_lines g_t_scribes g_t_turn g_t_bent g_t_need g_t_now) := hD
            refine lv_iload hx hb dX9_odds_103 (lv_at hl 4 rfl) ?_
            refine lv_if_eq (tgt := 126) hx hb dX9_odds_105 (by decide) (fun c_14 => ?_) (fun c_14 => ?_)
            · have hB := ifP c_14 hB
              refine lv_iload_n hx hb dX9_odds_126 rfl (lv_at hl 0 rfl) ?_
              refine lv_if_ne (tgt := 138) hx hb dX9_odds_127 (by decide) (fun c_15 => ?_) (fun c_15 => ?_)
              · have hB := ifN c_15 hB
                refine lv_iload hx hb dX9_odds_138 (lv_at hl 2 rfl) ?_
                refine lv_iload hx hb dX9_odds_140 (lv_at hl 3 rfl) ?_
                obtain ⟨h_16, hB⟩ := ifS hB
                refine lv_idiv hx hb dX9_odds_142 h_16 ?_
                have hK := leafK hB hK
                have hK := elimR hK
                have hK : (z10_1 / z13_0, q8_0, q8_1, q8_2) = R0 := hK
                subst hK
                exact W.iret (v := z10_1 / z13_0) hx hb hr (fun t ht hW => ⟨⟨_, (), rfl, rfl, by rw [ht]; exact hP, hD⟩, hS.F ht⟩) hS.2.2 dX9_odds_143
              · have hB := ifP c_15 hB
                refine lv_iload hx hb dX9_odds_130 (lv_at hl 1 rfl) ?_
                refine lv_iload hx hb dX9_odds_132 (lv_at hl 3 rfl) ?_
                obtain ⟨h_17, hB⟩ := ifS hB
                refine lv_idiv hx hb dX9_odds_134 h_17 ?_
                refine lv_goto (tgt := 143) hx hb dX9_odds_135 (by decide) ?_
                have hK := leafK hB hK
                have hK := elimR hK
                have hK : (z10_0 / z13_0, q8_0, q8_1, q8_2) = R0 := hK
                subst hK
                exact W.iret (v := z10_0 / z13_0) hx hb hr (fun t ht hW => ⟨⟨_, (), rfl, rfl, by rw [ht]; exact hP, hD⟩, hS.F ht⟩) hS.2.2 dX9_odds_143
            · have hB := ifN c_14 hB
              refine lv_iload hx hb dX9_odds_108 (lv_at hl 3 rfl) ?_
              refine lv_iload hx hb dX9_odds_110 (lv_at hl 4 rfl) ?_
              obtain ⟨h_18, hB⟩ := ifS hB
              refine lj_irem hx hb dX9_odds_112 h_18 ?_
              refine lv_istore (lv' := [(8, .int (jrem z13_0 z13_1)), (3, .int p3), (4, .int z10_0), (5, .int z10_1), (6, .int z13_0), (7, .int z13_1)]) hx hb dX9_odds_113 hl (by decide) rfl (fun ls hl => ?_)
              refine lv_iload hx hb dX9_odds_115 (lv_at hl 5 rfl) ?_
              refine lv_istore (lv' := [(6, .int z13_1), (8, .int (jrem z13_0 z13_1)), (3, .int p3), (4, .int z10_0), (5, .int z10_1), (7, .int z13_1)]) hx hb dX9_odds_117 hl (by decide) rfl (fun ls hl => ?_)
              refine lv_iload hx hb dX9_odds_119 (lv_at hl 1 rfl) ?_
              refine lv_istore (lv' := [(7, .int (jrem z13_0 z13_1)), (6, .int z13_1), (8, .int (jrem z13_0 z13_1)), (3, .int p3), (4, .int z10_0), (5, .int z10_1)]) hx hb dX9_odds_121 hl (by decide) rfl (fun ls hl => ?_)
              refine lv_goto (tgt := 103) hx hb dX9_odds_123 (by decide) ?_
              have hK := leafK hB hK
              have hK := elimL hK
              exact hK H locs hP hD hS ls (lv_sub hl [3, 4, 5, 1, 0] rfl)
          · have hB := ifN c_11 hB
            refine lv_iload hx hb dX9_odds_73 (lv_at hl 3 rfl) ?_
            refine lv_bipush (v := 10) hx hb dX9_odds_75 (by decide) ?_
            refine lv_iload_n hx hb dX9_odds_77 rfl (lv_at hl 0 rfl) ?_
            refine lv_isub hx hb dX9_odds_78 ?_
            refine lv_imul hx hb dX9_odds_79 ?_
            refine lv_istore (lv' := [(4, .int (z10_0 * ((10 : Int32) - p1))), (1, .int p1), (2, .int p2), (3, .int p3), (5, .int z10_1), (6, .int z10_2)]) hx hb dX9_odds_80 hl (by decide) rfl (fun ls hl => ?_)
            refine lv_iload hx hb dX9_odds_82 (lv_at hl 4 rfl) ?_
            refine lv_bipush (v := 10) hx hb dX9_odds_84 (by decide) ?_
            refine lv_imul hx hb dX9_odds_86 ?_
            refine lv_istore (lv' := [(5, .int (z10_1 * (10 : Int32))), (4, .int (z10_0 * ((10 : Int32) - p1))), (1, .int p1), (2, .int p2), (3, .int p3), (6, .int z10_2)]) hx hb dX9_odds_87 hl (by decide) rfl (fun ls hl => ?_)
            refine lv_iinc (v := z10_2 + (1 : Int32)) (lv' := [(6, .int (z10_2 + (1 : Int32))), (5, .int (z10_1 * (10 : Int32))), (4, .int (z10_0 * ((10 : Int32) - p1))), (1, .int p1), (2, .int p2), (3, .int p3)]) hx hb dX9_odds_89 hl (k := 5) rfl (inc_ok (by decide)) (by decide) rfl (fun ls hl => ?_)
            refine lv_goto (tgt := 67) hx hb dX9_odds_92 (by decide) ?_
            have hK := leafK hB hK
            have hK := elimL hK
            exact hK H locs hP hD hS ls (lv_sub hl [3, 4, 5, 2, 1, 0] rfl)
        · have hB := ifP c_9 hB
          refine lv_iconst (v := 1) hx hb dX9_odds_54 (by decide) ?_
          refine lv_goto (tgt := 59) hx hb dX9_odds_55 (by decide) ?_
          refine lv_istore (lv' := [(4, .int (1 : Int32)), (0, .ref a_t), (1, .int p1), (2, .int p2), (3, .int p3)]) hx hb dX9_odds_59 hl (by decide) rfl (fun ls hl => ?_)
          refine lv_iconst (v := 1) hx hb dX9_odds_61 (by decide) ?_
          refine lv_istore (lv' := [(5, .int (1 : Int32)), (4, .int (1 : Int32)), (0, .ref a_t), (1, .int p1), (2, .int p2), (3, .int p3)]) hx hb dX9_odds_62 hl (by decide) rfl (fun ls hl => ?_)
          refine lv_iconst (v := 0) hx hb dX9_odds_64 (by decide) ?_
          refine lv_istore (lv' := [(6, .int (0 : Int32)), (5, .int (1 : Int32)), (4, .int (1 : Int32)), (0, .ref a_t), (1, .int p1), (2, .int p2), (3, .int p3)]) hx hb dX9_odds_65 hl (by decide) rfl (fun ls hl => ?_)
          refine lp_ind (Wh := fun (z19 : Int32 × Int32 × Int32) => ∀ (H : Heap) (locs : List Loc), va_P G vwCl (wd_X9_odds cs a_t a_t_text a_t_opinions a_t_lines a_t_draftBook a_t_scribes a_t_turn a_t_bent a_t_need a_t_now a_t_isKept a_t_far a_t_marginOf a_t_marginSays v_t_trace v_t_typed v_t_needTold v_t_at v_t_start v_t_sort v_t_value v_t_fault v_t_target q8_0 q8_1 q8_2 v_t_margins g_t_opinions g_t_lines g_t_scribes g_t_turn g_t_bent g_t_need g_t_now) H → va_D A (wd_X9_odds cs a_t a_t_text a_t_opinions a_t_lines a_t_draftBook a_t_scribes a_t_turn a_t_bent a_t_need a_t_now a_t_isKept a_t_far a_t_marginOf a_t_marginSays v_t_trace v_t_typed v_t_needTold v_t_at v_t_start v_t_sort v_t_value v_t_fault v_t_target q8_0 q8_1 q8_2 v_t_margins g_t_opinions g_t_lines g_t_scribes g_t_turn g_t_bent g_t_need g_t_now) → va_S A s.heap H locs → ∀ (ls : Array Slot), lv_has ls 9 [(1, .int p1), (2, .int p2), (3, .int p3), (4, .int z19.1), (5, .int z19.2.1), (6, .int z19.2.2)] → W p l e rm_X9_odds s m ([.ref a_t, .int p1, .int p2, .int p3] : List Value).toArray below meth c H locs 0 0 (MQ below (QcI G A (wd_X9_odds cs a_t a_t_text a_t_opinions a_t_lines a_t_draftBook a_t_scribes a_t_turn a_t_bent a_t_need a_t_now a_t_isKept a_t_far a_t_marginOf a_t_marginSays v_t_trace v_t_typed v_t_needTold v_t_at v_t_start v_t_sort v_t_value v_t_fault v_t_target R0.2.1 R0.2.2.1 R0.2.2.2 v_t_margins g_t_opinions g_t_lines g_t_scribes g_t_turn g_t_bent g_t_need g_t_now) R0.1) ([.ref a_t, .int p1, .int p2, .int p3] : List Value).toArray s 0 0 A) (F0 m 67 ls [])) ?_ FU _ _ hB hK H locs hP hD hS ls (lv_sub hl [4, 5, 6, 2, 1, 0] rfl)
          rintro ⟨z19_0, z19_1, z19_2⟩ y hB hK H locs hP hD hS ls hl
          have hl : lv_has ls 9 [(1, .int p1), (2, .int p2), (3, .int p3), (4, .int z19_0), (5, .int z19_1), (6, .int z19_2)] := hl
          have hP : va_P G vwCl (wd_X9_odds cs a_t a_t_text a_t_opinions a_t_lines a_t_draftBook a_t_scribes a_t_turn a_t_bent a_t_need a_t_now a_t_isKept a_t_far a_t_marginOf a_t_marginSays v_t_trace v_t_typed v_t_needTold v_t_at v_t_start v_t_sort v_t_value v_t_fault v_t_target q8_0 q8_1 q8_2 v_t_margins g_t_opinions g_t_lines g_t_scribes g_t_turn g_t_bent g_t_need g_t_now) H := hP
          have hD : va_D A (wd_X9_odds cs a_t a_t_text a_t_opinions a_t_lines a_t_draftBook a_t_scribes a_t_turn a_t_bent a_t_need a_t_now a_t_isKept a_t_far a_t_marginOf a_t_marginSays v_t_trace v_t_typed v_t_needTold v_t_at v_t_start v_t_sort v_t_value v_t_fault v_t_target q8_0 q8_1 q8_2 v_t_margins g_t_opinions g_t_lines g_t_scribes g_t_turn g_t_bent g_t_need g_t_now) := hD
          refine lv_iload hx hb dX9_odds_67 (lv_at hl 5 rfl) ?_
          refine lv_iload_n hx hb dX9_odds_69 rfl (lv_at hl 1 rfl) ?_
          refine lv_icmp_ge (tgt := 95) hx hb dX9_odds_70 (by decide) (fun c_20 => ?_) (fun c_20 => ?_)
          · have hB := ifP c_20 hB
            refine lv_iload hx hb dX9_odds_95 (lv_at hl 3 rfl) ?_
            refine lv_istore (lv' := [(6, .int z19_0), (1, .int p1), (2, .int p2), (3, .int p3), (4, .int z19_0), (5, .int z19_1)]) hx hb dX9_odds_97 hl (by decide) rfl (fun ls hl => ?_)
            refine lv_iload hx hb dX9_odds_99 (lv_at hl 5 rfl) ?_
            refine lv_istore (lv' := [(7, .int z19_1), (6, .int z19_0), (1, .int p1), (2, .int p2), (3, .int p3), (4, .int z19_0), (5, .int z19_1)]) hx hb dX9_odds_101 hl (by decide) rfl (fun ls hl => ?_)
            obtain ⟨y21, hB, hy21⟩ := bnd hB
            have hK := leafK hy21 hK
            have hK := elimR hK
            refine lp_ind (Wh := fun (z22 : Int32 × Int32) => ∀ (H : Heap) (locs : List Loc), va_P G vwCl (wd_X9_odds cs a_t a_t_text a_t_opinions a_t_lines a_t_draftBook a_t_scribes a_t_turn a_t_bent a_t_need a_t_now a_t_isKept a_t_far a_t_marginOf a_t_marginSays v_t_trace v_t_typed v_t_needTold v_t_at v_t_start v_t_sort v_t_value v_t_fault v_t_target q8_0 q8_1 q8_2 v_t_margins g_t_opinions g_t_lines g_t_scribes g_t_turn g_t_bent g_t_need g_t_now) H → va_D A (wd_X9_odds cs a_t a_t_text a_t_opinions a_t_lines a_t_draftBook a_t_scribes a_t_turn a_t_bent a_t_need a_t_now a_t_isKept a_t_far a_t_marginOf a_t_marginSays v_t_trace v_t_typed v_t_needTold v_t_at v_t_start v_t_sort v_t_value v_t_fault v_t_target q8_0 q8_1 q8_2 v_t_margins g_t_opinions g_t_lines g_t_scribes g_t_turn g_t_bent g_t_need g_t_now) → va_S A s.heap H locs → ∀ (ls : Array Slot), lv_has ls 9 [(3, .int p3), (4, .int z19_0), (5, .int z19_1), (6, .int z22.1), (7, .int z22.2)] → W p l e rm_X9_odds s m ([.ref a_t, .int p1, .int p2, .int p3] : List Value).toArray below meth c H locs 0 0 (MQ below (QcI G A (wd_X9_odds cs a_t a_t_text a_t_opinions a_t_lines a_t_draftBook a_t_scribes a_t_turn a_t_bent a_t_need a_t_now a_t_isKept a_t_far a_t_marginOf a_t_marginSays v_t_trace v_t_typed v_t_needTold v_t_at v_t_start v_t_sort v_t_value v_t_fault v_t_target R0.2.1 R0.2.2.1 R0.2.2.2 v_t_margins g_t_opinions g_t_lines g_t_scribes g_t_turn g_t_bent g_t_need g_t_now) R0.1) ([.ref a_t, .int p1, .int p2, .int p3] : List Value).toArray s 0 0 A) (F0 m 103 ls [])) ?_ FU _ _ hB hK H locs hP hD hS ls (lv_sub hl [4, 5, 6, 1, 0] rfl)
            rintro ⟨z22_0, z22_1⟩ y hB hK H locs hP hD hS ls hl
            have hl : lv_has ls 9 [(3, .int p3), (4, .int z19_0), (5, .int z19_1), (6, .int z22_0), (7, .int z22_1)] := hl
            have hP : va_P G vwCl (wd_X9_odds cs a_t a_t_text a_t_opinions a_t_lines a_t_draftBook a_t_scribes a_t_turn a_t_bent a_t_need a_t_now a_t_isKept a_t_far a_t_marginOf a_t_marginSays v_t_trace v_t_typed v_t_needTold v_t_at v_t_start v_t_sort v_t_value v_t_fault v_t_target q8_0 q8_1 q8_2 v_t_margins g_t_opinions g_t_lines g_t_scribes g_t_turn g_t_bent g_t_need g_t_now) H := hP
            have hD : va_D A (wd_X9_odds cs a_t a_t_text a_t_opinions a_t_lines a_t_draftBook a_t_scribes a_t_turn a_t_bent a_t_need a_t_now a_t_isKept a_t_far a_t_marginOf a_t_marginSays v_t_trace v_t_typed v_t_needTold v_t_at v_t_start v_t_sort v_t_value v_t_fault v_t_target q8_0 q8_1 q8_2 v_t_margins g_t_opinions g_t_lines g_t_scribes g_t_turn g_t_bent g_t_need g_t_now) := hD
            refine lv_iload hx hb dX9_odds_103 (lv_at hl 4 rfl) ?_
            refine lv_if_eq (tgt := 126) hx hb dX9_odds_105 (by decide) (fun c_23 => ?_) (fun c_23 => ?_)
            · have hB := ifP c_23 hB
              refine lv_iload_n hx hb dX9_odds_126 rfl (lv_at hl 0 rfl) ?_
              refine lv_if_ne (tgt := 138) hx hb dX9_odds_127 (by decide) (fun c_24 => ?_) (fun c_24 => ?_)
              · have hB := ifN c_24 hB
                refine lv_iload hx hb dX9_odds_138 (lv_at hl 2 rfl) ?_
                refine lv_iload hx hb dX9_odds_140 (lv_at hl 3 rfl) ?_
                obtain ⟨h_25, hB⟩ := ifS hB
                refine lv_idiv hx hb dX9_odds_142 h_25 ?_
                have hK := leafK hB hK
                have hK := elimR hK
                have hK : (z19_1 / z22_0, q8_0, q8_1, q8_2) = R0 := hK
                subst hK
                exact W.iret (v := z19_1 / z22_0) hx hb hr (fun t ht hW => ⟨⟨_, (), rfl, rfl, by rw [ht]; exact hP, hD⟩, hS.F ht⟩) hS.2.2 dX9_odds_143
              · have hB := ifP c_24 hB
                refine lv_iload hx hb dX9_odds_130 (lv_at hl 1 rfl) ?_
                refine lv_iload hx hb dX9_odds_132 (lv_at hl 3 rfl) ?_
                obtain ⟨h_26, hB⟩ := ifS hB
                refine lv_idiv hx hb dX9_odds_134 h_26 ?_
                refine lv_goto (tgt := 143) hx hb dX9_odds_135 (by decide) ?_
                have hK := leafK hB hK
                have hK := elimR hK
                have hK : (z19_0 / z22_0, q8_0, q8_1, q8_2) = R0 := hK
                subst hK
                exact W.iret (v := z19_0 / z22_0) hx hb hr (fun t ht hW => ⟨⟨_, (), rfl, rfl, by rw [ht]; exact hP, hD⟩, hS.F ht⟩) hS.2.2 dX9_odds_143
            · have hB := ifN c_23 hB
              refine lv_iload hx hb dX9_odds_108 (lv_at hl 3 rfl) ?_
              refine lv_iload hx hb dX9_odds_110 (lv_at hl 4 rfl) ?_
              obtain ⟨h_27, hB⟩ := ifS hB
              refine lj_irem hx hb dX9_odds_112 h_27 ?_
              refine lv_istore (lv' := [(8, .int (jrem z22_0 z22_1)), (3, .int p3), (4, .int z19_0), (5, .int z19_1), (6, .int z22_0), (7, .int z22_1)]) hx hb dX9_odds_113 hl (by decide) rfl (fun ls hl => ?_)
              refine lv_iload hx hb dX9_odds_115 (lv_at hl 5 rfl) ?_
              refine lv_istore (lv' := [(6, .int z22_1), (8, .int (jrem z22_0 z22_1)), (3, .int p3), (4, .int z19_0), (5, .int z19_1), (7, .int z22_1)]) hx hb dX9_odds_117 hl (by decide) rfl (fun ls hl => ?_)
              refine lv_iload hx hb dX9_odds_119 (lv_at hl 1 rfl) ?_
              refine lv_istore (lv' := [(7, .int (jrem z22_0 z22_1)), (6, .int z22_1), (8, .int (jrem z22_0 z22_1)), (3, .int p3), (4, .int z19_0), (5, .int z19_1)]) hx hb dX9_odds_121 hl (by decide) rfl (fun ls hl => ?_)
              refine lv_goto (tgt := 103) hx hb dX9_odds_123 (by decide) ?_
              have hK := leafK hB hK
              have hK := elimL hK
              exact hK H locs hP hD hS ls (lv_sub hl [3, 4, 5, 1, 0] rfl)
          · have hB := ifN c_20 hB
            refine lv_iload hx hb dX9_odds_73 (lv_at hl 3 rfl) ?_
            refine lv_bipush (v := 10) hx hb dX9_odds_75 (by decide) ?_
            refine lv_iload_n hx hb dX9_odds_77 rfl (lv_at hl 0 rfl) ?_
            refine lv_isub hx hb dX9_odds_78 ?_
            refine lv_imul hx hb dX9_odds_79 ?_
            refine lv_istore (lv' := [(4, .int (z19_0 * ((10 : Int32) - p1))), (1, .int p1), (2, .int p2), (3, .int p3), (5, .int z19_1), (6, .int z19_2)]) hx hb dX9_odds_80 hl (by decide) rfl (fun ls hl => ?_)
            refine lv_iload hx hb dX9_odds_82 (lv_at hl 4 rfl) ?_
            refine lv_bipush (v := 10) hx hb dX9_odds_84 (by decide) ?_
            refine lv_imul hx hb dX9_odds_86 ?_
            refine lv_istore (lv' := [(5, .int (z19_1 * (10 : Int32))), (4, .int (z19_0 * ((10 : Int32) - p1))), (1, .int p1), (2, .int p2), (3, .int p3), (6, .int z19_2)]) hx hb dX9_odds_87 hl (by decide) rfl (fun ls hl => ?_)
            refine lv_iinc (v := z19_2 + (1 : Int32)) (lv' := [(6, .int (z19_2 + (1 : Int32))), (5, .int (z19_1 * (10 : Int32))), (4, .int (z19_0 * ((10 : Int32) - p1))), (1, .int p1), (2, .int p2), (3, .int p3)]) hx hb dX9_odds_89 hl (k := 5) rfl (inc_ok (by decide)) (by decide) rfl (fun ls hl => ?_)
            refine lv_goto (tgt := 67) hx hb dX9_odds_92 (by decide) ?_
            have hK := leafK hB hK
            have hK := elimL hK
            exact hK H locs hP hD hS ls (lv_sub hl [3, 4, 5, 2, 1, 0] rfl)
      · have hB := ifP c_6 hB
        refine lv_iconst (v := -1) hx hb dX9_odds_29 (by decide) ?_
        have hK := leafK hB hK
        have hK : ((-1 : Int32), v_t_went, v_t_ender, v_t_had) = R0 := hK
        subst hK
        exact W.iret (v := (-1 : Int32)) hx hb hr (fun t ht hW => ⟨⟨_, (), rfl, rfl, by rw [ht]; exact hP, hD⟩, hS.F ht⟩) hS.2.2 dX9_odds_30
def wd_X9_measure (cs : Nat → ClassId) (a_t a_t_text a_t_opinions a_t_lines a_t_draftBook a_t_scribes a_t_turn a_t_bent a_t_need a_t_now a_t_isKept a_t_far a_t_marginOf a_t_marginSays : Nat) (v_t_trace : Int64) (v_t_typed : Int32) (v_t_needTold : Int32) (v_t_at : Int32) (v_t_start : Int32) (v_t_sort : Int32) (v_t_value : Int32) (v_t_fault : Int32) (v_t_target : Int32) (v_t_went : Int32) (v_t_ender : Int32) (v_t_had : Int32) (v_t_margins : Int32) (g_t_opinions : Nat → Int32) (g_t_lines : Nat → Int32) (g_t_scribes : Nat → Int32) (g_t_turn : Nat → Int32) (g_t_bent : Nat → Int32) (g_t_need : Nat → Int32) (g_t_now : Nat → Int32) (g_t_far : Nat → Int32) : va_W := [(a_t, .inr (9, [.long v_t_trace, .ref a_t_text, .int v_t_typed, .ref a_t_opinions, .ref a_t_lines, .ref a_t_draftBook, .ref a_t_scribes, .ref a_t_turn, .ref a_t_bent, .ref a_t_need, .int v_t_needTold, .int v_t_at, .int v_t_start, .int v_t_sort, .int v_t_value, .int v_t_fault, .ref a_t_now, .ref a_t_isKept, .int v_t_target, .int v_t_went, .int v_t_ender, .int v_t_had, .ref a_t_far, .ref a_t_marginOf, .ref a_t_marginSays, .int v_t_margins])), (a_t_opinions, .inl (cs 0, 2, .inl g_t_opinions)), (a_t_lines, .inl (cs 0, 2, .inl g_t_lines)), (a_t_scribes, .inl (cs 0, 2, .inl g_t_scribes)), (a_t_turn, .inl (cs 0, 12, .inl g_t_turn)), (a_t_bent, .inl (cs 0, 12, .inl g_t_bent)), (a_t_need, .inl (cs 0, 2, .inl g_t_need)), (a_t_now, .inl (cs 0, 300, .inl g_t_now)), (a_t_far, .inl (cs 0, 625, .inl g_t_far))]
def rm_X9_measure : Room := { frames := 3, cells := 0, slots := 0, locals := 70 }
theorem mI_X9_measure : MI yX9_measure RX9 cX9_measure 6 none 0 := ⟨gI_X9_measure, gE_X9_measure, gN_X9, gC_X9_measure, by decide +kernel⟩
set_option maxHeartbeats 4000000 in
set_option maxRecDepth 100000 in
theorem k_X9_measure (l : Launch) (G : va_G) (cs : Nat → ClassId) (a_t a_t_text a_t_opinions a_t_lines a_t_draftBook a_t_scribes a_t_turn a_t_bent a_t_need a_t_now a_t_isKept a_t_far a_t_marginOf a_t_marginSays : Nat) (v_t_trace : Int64) (v_t_typed : Int32) (v_t_needTold : Int32) (v_t_at : Int32) (v_t_start : Int32) (v_t_sort : Int32) (v_t_value : Int32) (v_t_fault : Int32) (v_t_target : Int32) (v_t_went : Int32) (v_t_ender : Int32) (v_t_had : Int32) (v_t_margins : Int32) (g_t_opinions : Nat → Int32) (g_t_lines : Nat → Int32) (g_t_scribes : Nat → Int32) (g_t_turn : Nat → Int32) (g_t_bent : Nat → Int32) (g_t_need : Nat → Int32) (g_t_now : Nat → Int32) (g_t_far : Nat → Int32) (sz : Nat) (R0 : (Nat → Int32)) (hB : f_X9_measure v_t_target g_t_opinions g_t_lines g_t_scribes g_t_turn g_t_bent g_t_need g_t_now g_t_far = some R0) : Met l yX9_measure (.code yX9_measure cX9_measure 6 none :: GW) rm_X9_measure (PcW G cs [.ref a_t] (wd_X9_measure cs a_t a_t_text a_t_opinions a_t_lines a_t_draftBook a_t_scribes a_t_turn a_t_bent a_t_need a_t_now a_t_isKept a_t_far a_t_marginOf a_t_marginSays v_t_trace v_t_typed v_t_needTold v_t_at v_t_start v_t_sort v_t_value v_t_fault v_t_target v_t_went v_t_ender v_t_had v_t_margins g_t_opinions g_t_lines g_t_scribes g_t_turn g_t_bent g_t_need g_t_now g_t_far) sz) (QcV G (va_A (wd_X9_measure cs a_t a_t_text a_t_opinions a_t_lines a_t_draftBook a_t_scribes a_t_turn a_t_bent a_t_need a_t_now a_t_isKept a_t_far a_t_marginOf a_t_marginSays v_t_trace v_t_typed v_t_needTold v_t_at v_t_start v_t_sort v_t_value v_t_fault v_t_target v_t_went v_t_ender v_t_had v_t_margins g_t_opinions g_t_lines g_t_scribes g_t_turn g_t_bent g_t_need g_t_now g_t_far) sz) (wd_X9_measure cs a_t a_t_text a_t_opinions a_t_lines a_t_draftBook a_t_scribes a_t_turn a_t_bent a_t_need a_t_now a_t_isKept a_t_far a_t_marginOf a_t_marginSays v_t_trace v_t_typed v_t_needTold v_t_at v_t_start v_t_sort v_t_value v_t_fault v_t_target v_t_went v_t_ender v_t_had v_t_margins g_t_opinions g_t_lines g_t_scribes g_t_turn g_t_bent g_t_need g_t_now R0)) 0 0 (va_A (wd_X9_measure cs a_t a_t_text a_t_opinions a_t_lines a_t_draftBook a_t_scribes a_t_turn a_t_bent a_t_need a_t_now a_t_isKept a_t_far a_t_marginOf a_t_marginSays v_t_trace v_t_typed v_t_needTold v_t_at v_t_start v_t_sort v_t_value v_t_fault v_t_target v_t_went v_t_ender v_t_had v_t_margins g_t_opinions g_t_lines g_t_scribes g_t_turn g_t_bent g_t_need g_t_now g_t_far) sz) := by
  refine Met.ofW (cc := cX9_measure) (maxL := 6) (ret := none) (by decide) rfl ?_
  intro p e s m args below meth c s₁ B hml hv
  obtain ⟨rfl, hsz, hP, hD0, hK, hN⟩ := hv
  have hx := B.exec
  have hb := B.bytes
  have hr := B.returns
  have hts := atoms_spec (ws := .code yX9_measure cX9_measure 6 none :: GW) B.pre
  have hg : ∀ w ∈ GW, w.before _ s = true := fun w h => hts w (List.mem_cons_of_mem _ h)
  have hown : s.vm.findClass RX9 = some m.cls := findClass_of_methodNamed B.named
  have hlocks := B.notSynchronized
  subst hsz
  have hD := hD0.self (sz := s.heap.size)
  generalize hAe : va_A (wd_X9_measure cs a_t a_t_text a_t_opinions a_t_lines a_t_draftBook a_t_scribes a_t_turn a_t_bent a_t_need a_t_now a_t_isKept a_t_far a_t_marginOf a_t_marginSays v_t_trace v_t_typed v_t_needTold v_t_at v_t_start v_t_sort v_t_value v_t_fault v_t_target v_t_went v_t_ender v_t_had v_t_margins g_t_opinions g_t_lines g_t_scribes g_t_turn g_t_bent g_t_need g_t_now g_t_far) s.heap.size = A at hD ⊢
  have hA : ∀ q : Nat, s.heap.size ≤ q → A q := fun q h => by rw [← hAe]; exact Or.inr h
  have hS : va_S A s.heap s.heap [] := va_S.rf
  have hl := lv_entry ([.ref a_t]) (n := 6) (Nat.le_of_ble_eq_true rfl)
  rw [lg_entry_eq]
  generalize (lg_sl ([.ref a_t]) ++ List.replicate (6 - (lg_sl ([.ref a_t])).length) Slot.unset).toArray = ls at hl ⊢
  have hl : lv_has ls 6 [(0, .ref a_t)] := hl
  obtain ⟨y, hB, hK0⟩ : ∃ y, f_X9_measure v_t_target g_t_opinions g_t_lines g_t_scribes g_t_turn g_t_bent g_t_need g_t_now g_t_far = some y ∧ KEnd R0 y := ⟨R0, hB, rfl⟩
  have hKT := hK
  have hK := hK0
  obtain ⟨H, hHe⟩ : ∃ H, H = s.heap := ⟨_, rfl⟩
  obtain ⟨locs, hLe⟩ : ∃ L : List Loc, L = [] := ⟨_, rfl⟩
  rw [← hHe] at hP
  have hS : va_S A s.heap H locs := by rw [hHe, hLe]; exact hS
  show W p l e rm_X9_measure s m ([.ref a_t] : List Value).toArray below meth c s.heap [] 0 0 _ _
  suffices hgo : W p l e rm_X9_measure s m ([.ref a_t] : List Value).toArray below meth c H locs 0 0 (MQ below (QcV G A (wd_X9_measure cs a_t a_t_text a_t_opinions a_t_lines a_t_draftBook a_t_scribes a_t_turn a_t_bent a_t_need a_t_now a_t_isKept a_t_far a_t_marginOf a_t_marginSays v_t_trace v_t_typed v_t_needTold v_t_at v_t_start v_t_sort v_t_value v_t_fault v_t_target v_t_went v_t_ender v_t_had v_t_margins g_t_opinions g_t_lines g_t_scribes g_t_turn g_t_bent g_t_need g_t_now R0)) ([.ref a_t] : List Value).toArray s 0 0 A) (F0 m 0 ls []) by rw [hHe, hLe] at hgo; exact hgo
  refine lv_iconst (v := 0) hx hb dX9_measure_0 (by decide) ?_
  refine lv_istore_n (lv' := [(1, .int (0 : Int32)), (0, .ref a_t)]) hx hb dX9_measure_1 rfl hl (by decide) rfl (fun ls hl => ?_)
  refine lp_ind (Wh := fun (z1 : Int32 × (Nat → Int32)) => ∀ (H : Heap) (locs : List Loc), va_P G vwCl (wd_X9_measure cs a_t a_t_text a_t_opinions a_t_lines a_t_draftBook a_t_scribes a_t_turn a_t_bent a_t_need a_t_now a_t_isKept a_t_far a_t_marginOf a_t_marginSays v_t_trace v_t_typed v_t_needTold v_t_at v_t_start v_t_sort v_t_value v_t_fault v_t_target v_t_went v_t_ender v_t_had v_t_margins g_t_opinions g_t_lines g_t_scribes g_t_turn g_t_bent g_t_need g_t_now z1.2) H → va_D A (wd_X9_measure cs a_t a_t_text a_t_opinions a_t_lines a_t_draftBook a_t_scribes a_t_turn a_t_bent a_t_need a_t_now a_t_isKept a_t_far a_t_marginOf a_t_marginSays v_t_trace v_t_typed v_t_needTold v_t_at v_t_start v_t_sort v_t_value v_t_fault v_t_target v_t_went v_t_ender v_t_had v_t_margins g_t_opinions g_t_lines g_t_scribes g_t_turn g_t_bent g_t_need g_t_now z1.2) → va_S A s.heap H locs → ∀ (ls : Array Slot), lv_has ls 6 [(0, .ref a_t), (1, .int z1.1)] → W p l e rm_X9_measure s m ([.ref a_t] : List Value).toArray below meth c H locs 0 0 (MQ below (QcV G A (wd_X9_measure cs a_t a_t_text a_t_opinions a_t_lines a_t_draftBook a_t_scribes a_t_turn a_t_bent a_t_need a_t_now a_t_isKept a_t_far a_t_marginOf a_t_marginSays v_t_trace v_t_typed v_t_needTold v_t_at v_t_start v_t_sort v_t_value v_t_fault v_t_target v_t_went v_t_ender v_t_had v_t_margins g_t_opinions g_t_lines g_t_scribes g_t_turn g_t_bent g_t_need g_t_now R0)) ([.ref a_t] : List Value).toArray s 0 0 A) (F0 m 2 ls [])) ?_ FU _ _ hB hK H locs hP hD hS ls (lv_sub hl [1, 0] rfl)
  rintro ⟨z1_0, z1_1⟩ y hB hK H locs hP hD hS ls hl
  have hl : lv_has ls 6 [(0, .ref a_t), (1, .int z1_0)] := hl
  have hP : va_P G vwCl (wd_X9_measure cs a_t a_t_text a_t_opinions a_t_lines a_t_draftBook a_t_scribes a_t_turn a_t_bent a_t_need a_t_now a_t_isKept a_t_far a_t_marginOf a_t_marginSays v_t_trace v_t_typed v_t_needTold v_t_at v_t_start v_t_sort v_t_value v_t_fault v_t_target v_t_went v_t_ender v_t_had v_t_margins g_t_opinions g_t_lines g_t_scribes g_t_turn g_t_bent g_t_need g_t_now z1_1) H := hP
  have hD : va_D A (wd_X9_measure cs a_t a_t_text a_t_opinions a_t_lines a_t_draftBook a_t_scribes a_t_turn a_t_bent a_t_need a_t_now a_t_isKept a_t_far a_t_marginOf a_t_marginSays v_t_trace v_t_typed v_t_needTold v_t_at v_t_start v_t_sort v_t_value v_t_fault v_t_target v_t_went v_t_ender v_t_had v_t_margins g_t_opinions g_t_lines g_t_scribes g_t_turn g_t_bent g_t_need g_t_now z1_1) := hD
  refine lv_iload_n hx hb dX9_measure_2 rfl (lv_at hl 1 rfl) ?_
  refine lv_sipush (v := 625) hx hb dX9_measure_3 (by decide) ?_
  refine lv_icmp_ge (tgt := 35) hx hb dX9_measure_6 (by decide) (fun c_2 => ?_) (fun c_2 => ?_)
  · have hB := ifP c_2 hB
    refine lv_iconst (v := 1) hx hb dX9_measure_35 (by decide) ?_
    refine lv_istore_n (lv' := [(1, .int (1 : Int32)), (0, .ref a_t)]) hx hb dX9_measure_36 rfl hl (by decide) rfl (fun ls hl => ?_)
    refine lv_iconst (v := 0) hx hb dX9_measure_37 (by decide) ?_
    refine lv_istore_n (lv' := [(2, .int (0 : Int32)), (1, .int (1 : Int32)), (0, .ref a_t)]) hx hb dX9_measure_38 rfl hl (by decide) rfl (fun ls hl => ?_)
    obtain ⟨y3, hB, hy3⟩ := bnd hB
    have hK := leafK hy3 hK
    have hK := elimR hK
    refine lp_ind (Wh := fun (z4 : Int32 × Int32 × (Nat → Int32)) => ∀ (H : Heap) (locs : List Loc), va_P G vwCl (wd_X9_measure cs a_t a_t_text a_t_opinions a_t_lines a_t_draftBook a_t_scribes a_t_turn a_t_bent a_t_need a_t_now a_t_isKept a_t_far a_t_marginOf a_t_marginSays v_t_trace v_t_typed v_t_needTold v_t_at v_t_start v_t_sort v_t_value v_t_fault v_t_target v_t_went v_t_ender v_t_had v_t_margins g_t_opinions g_t_lines g_t_scribes g_t_turn g_t_bent g_t_need g_t_now z4.2.2) H → va_D A (wd_X9_measure cs a_t a_t_text a_t_opinions a_t_lines a_t_draftBook a_t_scribes a_t_turn a_t_bent a_t_need a_t_now a_t_isKept a_t_far a_t_marginOf a_t_marginSays v_t_trace v_t_typed v_t_needTold v_t_at v_t_start v_t_sort v_t_value v_t_fault v_t_target v_t_went v_t_ender v_t_had v_t_margins g_t_opinions g_t_lines g_t_scribes g_t_turn g_t_bent g_t_need g_t_now z4.2.2) → va_S A s.heap H locs → ∀ (ls : Array Slot), lv_has ls 6 [(0, .ref a_t), (1, .int z4.1), (2, .int z4.2.1)] → W p l e rm_X9_measure s m ([.ref a_t] : List Value).toArray below meth c H locs 0 0 (MQ below (QcV G A (wd_X9_measure cs a_t a_t_text a_t_opinions a_t_lines a_t_draftBook a_t_scribes a_t_turn a_t_bent a_t_need a_t_now a_t_isKept a_t_far a_t_marginOf a_t_marginSays v_t_trace v_t_typed v_t_needTold v_t_at v_t_start v_t_sort v_t_value v_t_fault v_t_target v_t_went v_t_ender v_t_had v_t_margins g_t_opinions g_t_lines g_t_scribes g_t_turn g_t_bent g_t_need g_t_now R0)) ([.ref a_t] : List Value).toArray s 0 0 A) (F0 m 39 ls [])) ?_ FU _ _ hB hK H locs hP hD hS ls (lv_sub hl [2, 1, 0] rfl)
    rintro ⟨z4_0, z4_1, z4_2⟩ y hB hK H locs hP hD hS ls hl
    have hl : lv_has ls 6 [(0, .ref a_t), (1, .int z4_0), (2, .int z4_1)] := hl
    have hP : va_P G vwCl (wd_X9_measure cs a_t a_t_text a_t_opinions a_t_lines a_t_draftBook a_t_scribes a_t_turn a_t_bent a_t_need a_t_now a_t_isKept a_t_far a_t_marginOf a_t_marginSays v_t_trace v_t_typed v_t_needTold v_t_at v_t_start v_t_sort v_t_value v_t_fault v_t_target v_t_went v_t_ender v_t_had v_t_margins g_t_opinions g_t_lines g_t_scribes g_t_turn g_t_bent g_t_need g_t_now z4_2) H := hP
    have hD : va_D A (wd_X9_measure cs a_t a_t_text a_t_opinions a_t_lines a_t_draftBook a_t_scribes a_t_turn a_t_bent a_t_need a_t_now a_t_isKept a_t_far a_t_marginOf a_t_marginSays v_t_trace v_t_typed v_t_needTold v_t_at v_t_start v_t_sort v_t_value v_t_fault v_t_target v_t_went v_t_ender v_t_had v_t_margins g_t_opinions g_t_lines g_t_scribes g_t_turn g_t_bent g_t_need g_t_now z4_2) := hD
    refine lv_iload_n hx hb dX9_measure_39 rfl (lv_at hl 1 rfl) ?_
    refine lv_if_eq (tgt := 160) hx hb dX9_measure_40 (by decide) (fun c_5 => ?_) (fun c_5 => ?_)
    · have hB := ifP c_5 hB
      have hK := leafK hB hK
      have hK := elimR hK
      have hK : z4_2 = R0 := hK
      subst hK
      exact W.vret hx hb hr (fun t ht hW => ⟨⟨(), rfl, trivial, by rw [ht]; exact hP, hD⟩, hS.F ht⟩) hS.2.2 dX9_measure_160
    · have hB := ifN c_5 hB
      refine lv_iconst (v := 0) hx hb dX9_measure_43 (by decide) ?_
      refine lv_istore_n (lv' := [(1, .int (0 : Int32)), (0, .ref a_t), (2, .int z4_1)]) hx hb dX9_measure_44 rfl hl (by decide) rfl (fun ls hl => ?_)
      refine lv_iconst (v := 0) hx hb dX9_measure_45 (by decide) ?_
      refine lv_istore_n (lv' := [(3, .int (0 : Int32)), (1, .int (0 : Int32)), (0, .ref a_t), (2, .int z4_1)]) hx hb dX9_measure_46 rfl hl (by decide) rfl (fun ls hl => ?_)
      refine lp_ind (Wh := fun (z6 : Int32 × Int32 × (Nat → Int32)) => ∀ (H : Heap) (locs : List Loc), va_P G vwCl (wd_X9_measure cs a_t a_t_text a_t_opinions a_t_lines a_t_draftBook a_t_scribes a_t_turn a_t_bent a_t_need a_t_now a_t_isKept a_t_far a_t_marginOf a_t_marginSays v_t_trace v_t_typed v_t_needTold v_t_at v_t_start v_t_sort v_t_value v_t_fault v_t_target v_t_went v_t_ender v_t_had v_t_margins g_t_opinions g_t_lines g_t_scribes g_t_turn g_t_bent g_t_need g_t_now z6.2.2) H → va_D A (wd_X9_measure cs a_t a_t_text a_t_opinions a_t_lines a_t_draftBook a_t_scribes a_t_turn a_t_bent a_t_need a_t_now a_t_isKept a_t_far a_t_marginOf a_t_marginSays v_t_trace v_t_typed v_t_needTold v_t_at v_t_start v_t_sort v_t_value v_t_fault v_t_target v_t_went v_t_ender v_t_had v_t_margins g_t_opinions g_t_lines g_t_scribes g_t_turn g_t_bent g_t_need g_t_now z6.2.2) → va_S A s.heap H locs → ∀ (ls : Array Slot), lv_has ls 6 [(0, .ref a_t), (1, .int z6.1), (2, .int z4_1), (3, .int z6.2.1)] → W p l e rm_X9_measure s m ([.ref a_t] : List Value).toArray below meth c H locs 0 0 (MQ below (QcV G A (wd_X9_measure cs a_t a_t_text a_t_opinions a_t_lines a_t_draftBook a_t_scribes a_t_turn a_t_bent a_t_need a_t_now a_t_isKept a_t_far a_t_marginOf a_t_marginSays v_t_trace v_t_typed v_t_needTold v_t_at v_t_start v_t_sort v_t_value v_t_fault v_t_target v_t_went v_t_ender v_t_had v_t_margins g_t_opinions g_t_lines g_t_scribes g_t_turn g_t_bent g_t_need g_t_now R0)) ([.ref a_t] : List Value).toArray s 0 0 A) (F0 m 47 ls [])) ?_ FU _ _ hB hK H locs hP hD hS ls (lv_sub hl [2, 1, 3, 0] rfl)
      rintro ⟨z6_0, z6_1, z6_2⟩ y hB hK H locs hP hD hS ls hl
      have hl : lv_has ls 6 [(0, .ref a_t), (1, .int z6_0), (2, .int z4_1), (3, .int z6_1)] := hl
      have hP : va_P G vwCl (wd_X9_measure cs a_t a_t_text a_t_opinions a_t_lines a_t_draftBook a_t_scribes a_t_turn a_t_bent a_t_need a_t_now a_t_isKept a_t_far a_t_marginOf a_t_marginSays v_t_trace v_t_typed v_t_needTold v_t_at v_t_start v_t_sort v_t_value v_t_fault v_t_target v_t_went v_t_ender v_t_had v_t_margins g_t_opinions g_t_lines g_t_scribes g_t_turn g_t_bent g_t_need g_t_now z6_2) H := hP
      have hD : va_D A (wd_X9_measure cs a_t a_t_text a_t_opinions a_t_lines a_t_draftBook a_t_scribes a_t_turn a_t_bent a_t_need a_t_now a_t_isKept a_t_far a_t_marginOf a_t_marginSays v_t_trace v_t_typed v_t_needTold v_t_at v_t_start v_t_sort v_t_value v_t_fault v_t_target v_t_went v_t_ender v_t_had v_t_margins g_t_opinions g_t_lines g_t_scribes g_t_turn g_t_bent g_t_need g_t_now z6_2) := hD
      refine lv_iload_n hx hb dX9_measure_47 rfl (lv_at hl 3 rfl) ?_
      refine lv_aload_n hx hb dX9_measure_48 rfl (lv_at hl 0 rfl) ?_
      obtain ⟨q7, hq7, hB⟩ := bnd hB
      refine kr_V (WC := wd_X9_books cs a_t a_t_text a_t_opinions a_t_lines a_t_draftBook a_t_scribes a_t_turn a_t_bent a_t_need a_t_now a_t_isKept a_t_far a_t_marginOf a_t_marginSays v_t_trace v_t_typed v_t_needTold v_t_at v_t_start v_t_sort v_t_value v_t_fault v_t_target v_t_went v_t_ender v_t_had v_t_margins g_t_opinions g_t_lines) (As := []) (rest := [.int z6_1]) (r0 := q7) ⟨hx, hb, hml, hown, hg⟩ (k_X9_books l G cs a_t a_t_text a_t_opinions a_t_lines a_t_draftBook a_t_scribes a_t_turn a_t_bent a_t_need a_t_now a_t_isKept a_t_far a_t_marginOf a_t_marginSays v_t_trace v_t_typed v_t_needTold v_t_at v_t_start v_t_sort v_t_value v_t_fault v_t_target v_t_went v_t_ender v_t_had v_t_margins g_t_opinions g_t_lines q7 hq7) gM_X9_152 mI_X9_books (rmk rfl) hP hKT hN 0 rfl rfl [0, 1, 2] rfl rfl hl.1 rfl (Nat.le_of_ble_eq_true rfl) dX9_measure_49 ?_
      refine lv_icmp_ge (tgt := 154) hx hb dX9_measure_52 (by decide) (fun c_8 => ?_) (fun c_8 => ?_)
      · have hB := ifP c_8 hB
        refine lv_iinc (v := z4_1 + (1 : Int32)) (lv' := [(2, .int (z4_1 + (1 : Int32))), (0, .ref a_t), (1, .int z6_0), (3, .int z6_1)]) hx hb dX9_measure_154 hl (k := 2) rfl (inc_ok (by decide)) (by decide) rfl (fun ls hl => ?_)
        refine lv_goto (tgt := 39) hx hb dX9_measure_157 (by decide) ?_
        have hK := leafK hB hK
        have hK := elimR hK
        have hK := elimL hK
        exact hK H locs hP hD hS ls (lv_sub hl [1, 2, 0] rfl)
      · have hB := ifN c_8 hB
        refine lv_iconst (v := 0) hx hb dX9_measure_55 (by decide) ?_
        refine lv_istore (lv' := [(4, .int (0 : Int32)), (0, .ref a_t), (1, .int z6_0), (2, .int z4_1), (3, .int z6_1)]) hx hb dX9_measure_56 hl (by decide) rfl (fun ls hl => ?_)
        refine lp_ind (Wh := fun (z9 : Int32 × Int32 × (Nat → Int32)) => ∀ (H : Heap) (locs : List Loc), va_P G vwCl (wd_X9_measure cs a_t a_t_text a_t_opinions a_t_lines a_t_draftBook a_t_scribes a_t_turn a_t_bent a_t_need a_t_now a_t_isKept a_t_far a_t_marginOf a_t_marginSays v_t_trace v_t_typed v_t_needTold v_t_at v_t_start v_t_sort v_t_value v_t_fault v_t_target v_t_went v_t_ender v_t_had v_t_margins g_t_opinions g_t_lines g_t_scribes g_t_turn g_t_bent g_t_need g_t_now z9.2.2) H → va_D A (wd_X9_measure cs a_t a_t_text a_t_opinions a_t_lines a_t_draftBook a_t_scribes a_t_turn a_t_bent a_t_need a_t_now a_t_isKept a_t_far a_t_marginOf a_t_marginSays v_t_trace v_t_typed v_t_needTold v_t_at v_t_start v_t_sort v_t_value v_t_fault v_t_target v_t_went v_t_ender v_t_had v_t_margins g_t_opinions g_t_lines g_t_scribes g_t_turn g_t_bent g_t_need g_t_now z9.2.2) → va_S A s.heap H locs → ∀ (ls : Array Slot), lv_has ls 6 [(0, .ref a_t), (1, .int z9.1), (2, .int z4_1), (3, .int z6_1), (4, .int z9.2.1)] → W p l e rm_X9_measure s m ([.ref a_t] : List Value).toArray below meth c H locs 0 0 (MQ below (QcV G A (wd_X9_measure cs a_t a_t_text a_t_opinions a_t_lines a_t_draftBook a_t_scribes a_t_turn a_t_bent a_t_need a_t_now a_t_isKept a_t_far a_t_marginOf a_t_marginSays v_t_trace v_t_typed v_t_needTold v_t_at v_t_start v_t_sort v_t_value v_t_fault v_t_target v_t_went v_t_ender v_t_had v_t_margins g_t_opinions g_t_lines g_t_scribes g_t_turn g_t_bent g_t_need g_t_now R0)) ([.ref a_t] : List Value).toArray s 0 0 A) (F0 m 58 ls [])) ?_ FU _ _ hB hK H locs hP hD hS ls (lv_sub hl [1, 2, 3, 4, 0] rfl)
        rintro ⟨z9_0, z9_1, z9_2⟩ y hB hK H locs hP hD hS ls hl
        have hl : lv_has ls 6 [(0, .ref a_t), (1, .int z9_0), (2, .int z4_1), (3, .int z6_1), (4, .int z9_1)] := hl
        have hP : va_P G vwCl (wd_X9_measure cs a_t a_t_text a_t_opinions a_t_lines a_t_draftBook a_t_scribes a_t_turn a_t_bent a_t_need a_t_now a_t_isKept a_t_far a_t_marginOf a_t_marginSays v_t_trace v_t_typed v_t_needTold v_t_at v_t_start v_t_sort v_t_value v_t_fault v_t_target v_t_went v_t_ender v_t_had v_t_margins g_t_opinions g_t_lines g_t_scribes g_t_turn g_t_bent g_t_need g_t_now z9_2) H := hP
        have hD : va_D A (wd_X9_measure cs a_t a_t_text a_t_opinions a_t_lines a_t_draftBook a_t_scribes a_t_turn a_t_bent a_t_need a_t_now a_t_isKept a_t_far a_t_marginOf a_t_marginSays v_t_trace v_t_typed v_t_needTold v_t_at v_t_start v_t_sort v_t_value v_t_fault v_t_target v_t_went v_t_ender v_t_had v_t_margins g_t_opinions g_t_lines g_t_scribes g_t_turn g_t_bent g_t_need g_t_now z9_2) := hD
        refine lv_iload hx hb dX9_measure_58 (lv_at hl 4 rfl) ?_
        refine lv_aload_n hx hb dX9_measure_60 rfl (lv_at hl 0 rfl) ?_
        refine va_get (D := G) (ci := 9) (v := .ref a_t_scribes) (C := RX9) (T := TX9) (N := 26) hx hb hg inX9 hown hKT hP 0 rfl rfl 6 (by decide) (hg _ gF_X9_23) (fun _ h9 => h9) rfl dX9_measure_61 ?_
        refine lv_iconst (v := 0) hx hb dX9_measure_64 (by decide) ?_
        refine va_iald hx hb hKT hP 3 0 rfl rfl (vinC (by decide)) dX9_measure_65 ?_
        refine lv_icmp_ge (tgt := 148) hx hb dX9_measure_66 (by decide) (fun c_10 => ?_) (fun c_10 => ?_)
        · have hB := ifP c_10 hB
          refine lv_iinc (v := z6_1 + (1 : Int32)) (lv' := [(3, .int (z6_1 + (1 : Int32))), (0, .ref a_t), (1, .int z9_0), (2, .int z4_1), (4, .int z9_1)]) hx hb dX9_measure_148 hl (k := 3) rfl (inc_ok (by decide)) (by decide) rfl (fun ls hl => ?_)
          refine lv_goto (tgt := 47) hx hb dX9_measure_151 (by decide) ?_
          have hK := leafK hB hK
          have hK := elimR hK
          have hK := elimL hK
          exact hK H locs hP hD hS ls (lv_sub hl [1, 2, 3, 0] rfl)
        · have hB := ifN c_10 hB
          refine lv_aload_n hx hb dX9_measure_69 rfl (lv_at hl 0 rfl) ?_
          refine va_get (D := G) (ci := 9) (v := .ref a_t_far) (C := RX9) (T := TX9) (N := 26) hx hb hg inX9 hown hKT hP 0 rfl rfl 22 (by decide) (hg _ gF_X9_42) (fun _ h9 => h9) rfl dX9_measure_70 ?_
          refine lv_iload_n hx hb dX9_measure_73 rfl (lv_at hl 3 rfl) ?_
          obtain ⟨h_11, hB⟩ := ifS hB
          refine va_iald hx hb hKT hP 8 0 rfl rfl h_11 dX9_measure_74 ?_
          refine lv_bipush (v := -9) hx hb dX9_measure_75 (by decide) ?_
          refine lv_icmp_ne (tgt := 148) hx hb dX9_measure_77 (by decide) (fun c_12 => ?_) (fun c_12 => ?_)
          · have hB := ifN c_12 hB
            refine lv_iinc (v := z6_1 + (1 : Int32)) (lv' := [(3, .int (z6_1 + (1 : Int32))), (0, .ref a_t), (1, .int z9_0), (2, .int z4_1), (4, .int z9_1)]) hx hb dX9_measure_148 hl (k := 3) rfl (inc_ok (by decide)) (by decide) rfl (fun ls hl => ?_)
            refine lv_goto (tgt := 47) hx hb dX9_measure_151 (by decide) ?_
            have hK := leafK hB hK
            have hK := elimR hK
            have hK := elimL hK
            exact hK H locs hP hD hS ls (lv_sub hl [1, 2, 3, 0] rfl)
          · have hB := ifP c_12 hB
            refine lv_aload_n hx hb dX9_measure_80 rfl (lv_at hl 0 rfl) ?_
            obtain ⟨q13, hq13, hB⟩ := bnd hB
            refine kr_V (WC := wd_X9_boughtIn cs a_t a_t_text a_t_opinions a_t_lines a_t_draftBook a_t_scribes a_t_turn a_t_bent a_t_need a_t_now a_t_isKept a_t_far a_t_marginOf a_t_marginSays v_t_trace v_t_typed v_t_needTold v_t_at v_t_start v_t_sort v_t_value v_t_fault v_t_target v_t_went v_t_ender v_t_had v_t_margins g_t_scribes g_t_now) (As := []) (rest := []) (r0 := q13) ⟨hx, hb, hml, hown, hg⟩ (k_X9_boughtIn l G cs a_t a_t_text a_t_opinions a_t_lines a_t_draftBook a_t_scribes a_t_turn a_t_bent a_t_need a_t_now a_t_isKept a_t_far a_t_marginOf a_t_marginSays v_t_trace v_t_typed v_t_needTold v_t_at v_t_start v_t_sort v_t_value v_t_fault v_t_target v_t_went v_t_ender v_t_had v_t_margins g_t_scribes g_t_now q13 hq13) gM_X9_176 mI_X9_boughtIn (rmk rfl) hP hKT hN 0 rfl rfl [0, 3, 7] rfl rfl hl.1 rfl (Nat.le_of_ble_eq_true rfl) dX9_measure_81 ?_
            refine lv_iload hx hb dX9_measure_84 (lv_at hl 4 rfl) ?_
            refine lj_ishr hx hb dX9_measure_86 ?_
            refine lv_iconst (v := 1) hx hb dX9_measure_87 (by decide) ?_
            refine lv_iand hx hb dX9_measure_88 ?_
            refine lv_iconst (v := 1) hx hb dX9_measure_89 (by decide) ?_
            refine lv_icmp_ne (tgt := 123) hx hb dX9_measure_90 (by decide) (fun c_14 => ?_) (fun c_14 => ?_)
            · have hB := ifN c_14 hB
              refine lv_iconst (v := 0) hx hb dX9_measure_123 (by decide) ?_
              refine lv_istore (lv' := [(5, .int (0 : Int32)), (0, .ref a_t), (1, .int z9_0), (2, .int z4_1), (3, .int z6_1), (4, .int z9_1)]) hx hb dX9_measure_124 hl (by decide) rfl (fun ls hl => ?_)
              refine lv_iload hx hb dX9_measure_126 (lv_at hl 0 rfl) ?_
              refine lv_if_eq (tgt := 142) hx hb dX9_measure_128 (by decide) (fun c_15 => ?_) (fun c_15 => ?_)
              · refine lv_iinc (v := z9_1 + (1 : Int32)) (lv' := [(4, .int (z9_1 + (1 : Int32))), (5, .int (0 : Int32)), (0, .ref a_t), (1, .int z9_0), (2, .int z4_1), (3, .int z6_1)]) hx hb dX9_measure_142 hl (k := 5) rfl (inc_ok (by decide)) (by decide) rfl (fun ls hl => ?_)
                refine lv_goto (tgt := 58) hx hb dX9_measure_145 (by decide) ?_
                have hK := leafK hB hK
                have hK := elimL hK
                exact hK H locs hP hD hS ls (lv_sub hl [2, 3, 4, 5, 0] rfl)
              · exact absurd c_15 (by decide)
            · have hB := ifP c_14 hB
              refine lv_aload_n hx hb dX9_measure_93 rfl (lv_at hl 0 rfl) ?_
              refine lv_iload hx hb dX9_measure_94 (lv_at hl 4 rfl) ?_
              refine lv_iload_n hx hb dX9_measure_96 rfl (lv_at hl 3 rfl) ?_
              obtain ⟨q16, hq16, hB⟩ := bnd hB
              refine kr_V (WC := wd_X9_isConvinced cs a_t a_t_text a_t_opinions a_t_lines a_t_draftBook a_t_scribes a_t_turn a_t_bent a_t_need a_t_now a_t_isKept a_t_far a_t_marginOf a_t_marginSays v_t_trace v_t_typed v_t_needTold v_t_at v_t_start v_t_sort v_t_value v_t_fault v_t_target v_t_went v_t_ender v_t_had v_t_margins g_t_opinions g_t_lines g_t_turn g_t_bent g_t_need) (As := [.int z9_1, .int z6_1]) (rest := []) (r0 := q16) ⟨hx, hb, hml, hown, hg⟩ (k_X9_isConvinced l G cs a_t a_t_text a_t_opinions a_t_lines a_t_draftBook a_t_scribes a_t_turn a_t_bent a_t_need a_t_now a_t_isKept a_t_far a_t_marginOf a_t_marginSays v_t_trace v_t_typed v_t_needTold v_t_at v_t_start v_t_sort v_t_value v_t_fault v_t_target v_t_went v_t_ender v_t_had v_t_margins g_t_opinions g_t_lines g_t_turn g_t_bent g_t_need z9_1 z6_1 q16 hq16) gM_X9_136 mI_X9_isConvinced (rmk rfl) hP hKT hN 0 rfl rfl [0, 1, 2, 4, 5, 6] rfl rfl hl.1 rfl (Nat.le_of_ble_eq_true rfl) dX9_measure_97 ?_
              refine lv_if_ne (tgt := 123) hx hb dX9_measure_100 (by decide) (fun c_17 => ?_) (fun c_17 => ?_)
              · have hB := ifN c_17 hB
                refine lv_iconst (v := 0) hx hb dX9_measure_123 (by decide) ?_
                refine lv_istore (lv' := [(5, .int (0 : Int32)), (0, .ref a_t), (1, .int z9_0), (2, .int z4_1), (3, .int z6_1), (4, .int z9_1)]) hx hb dX9_measure_124 hl (by decide) rfl (fun ls hl => ?_)
                refine lv_iload hx hb dX9_measure_126 (lv_at hl 0 rfl) ?_
                refine lv_if_eq (tgt := 142) hx hb dX9_measure_128 (by decide) (fun c_18 => ?_) (fun c_18 => ?_)
                · refine lv_iinc (v := z9_1 + (1 : Int32)) (lv' := [(4, .int (z9_1 + (1 : Int32))), (5, .int (0 : Int32)), (0, .ref a_t), (1, .int z9_0), (2, .int z4_1), (3, .int z6_1)]) hx hb dX9_measure_142 hl (k := 5) rfl (inc_ok (by decide)) (by decide) rfl (fun ls hl => ?_)
                  refine lv_goto (tgt := 58) hx hb dX9_measure_145 (by decide) ?_
                  have hK := leafK hB hK
                  have hK := elimL hK
                  exact hK H locs hP hD hS ls (lv_sub hl [2, 3, 4, 5, 0] rfl)
                · exact absurd c_18 (by decide)
              · have hB := ifP c_17 hB
                refine lv_aload_n hx hb dX9_measure_103 rfl (lv_at hl 0 rfl) ?_
                refine va_get (D := G) (ci := 9) (v := .ref a_t_far) (C := RX9) (T := TX9) (N := 26) hx hb hg inX9 hown hKT hP 0 rfl rfl 22 (by decide) (hg _ gF_X9_42) (fun _ h9 => h9) rfl dX9_measure_104 ?_
                refine lv_aload_n hx hb dX9_measure_107 rfl (lv_at hl 0 rfl) ?_
                refine lv_iload hx hb dX9_measure_108 (lv_at hl 4 rfl) ?_
                refine lv_iload_n hx hb dX9_measure_110 rfl (lv_at hl 3 rfl) ?_
                obtain ⟨q19, hq19, hB⟩ := bnd hB
                refine kr_V (WC := wd_X9_copyOf cs a_t a_t_text a_t_opinions a_t_lines a_t_draftBook a_t_scribes a_t_turn a_t_bent a_t_need a_t_now a_t_isKept a_t_far a_t_marginOf a_t_marginSays v_t_trace v_t_typed v_t_needTold v_t_at v_t_start v_t_sort v_t_value v_t_fault v_t_target v_t_went v_t_ender v_t_had v_t_margins g_t_opinions g_t_lines g_t_turn g_t_bent) (As := [.int z9_1, .int z6_1]) (rest := [.ref a_t_far]) (r0 := q19) ⟨hx, hb, hml, hown, hg⟩ (k_X9_copyOf l G cs a_t a_t_text a_t_opinions a_t_lines a_t_draftBook a_t_scribes a_t_turn a_t_bent a_t_need a_t_now a_t_isKept a_t_far a_t_marginOf a_t_marginSays v_t_trace v_t_typed v_t_needTold v_t_at v_t_start v_t_sort v_t_value v_t_fault v_t_target v_t_went v_t_ender v_t_had v_t_margins g_t_opinions g_t_lines g_t_turn g_t_bent z9_1 z6_1 q19 hq19) gM_X9_126 mI_X9_copyOf (rmk rfl) hP hKT hN 0 rfl rfl [0, 1, 2, 4, 5] rfl rfl hl.1 rfl (Nat.le_of_ble_eq_true rfl) dX9_measure_111 ?_
                obtain ⟨h_20, hB⟩ := ifS hB
                refine va_iald hx hb hKT hP 8 0 rfl rfl h_20 dX9_measure_114 ?_
                refine lv_iload_n hx hb dX9_measure_115 rfl (lv_at hl 2 rfl) ?_
                refine lv_icmp_ne (tgt := 123) hx hb dX9_measure_116 (by decide) (fun c_21 => ?_) (fun c_21 => ?_)
                · have hB := ifN c_21 hB
                  refine lv_iconst (v := 0) hx hb dX9_measure_123 (by decide) ?_
                  refine lv_istore (lv' := [(5, .int (0 : Int32)), (0, .ref a_t), (1, .int z9_0), (2, .int z4_1), (3, .int z6_1), (4, .int z9_1)]) hx hb dX9_measure_124 hl (by decide) rfl (fun ls hl => ?_)
                  refine lv_iload hx hb dX9_measure_126 (lv_at hl 0 rfl) ?_
                  refine lv_if_eq (tgt := 142) hx hb dX9_measure_128 (by decide) (fun c_22 => ?_) (fun c_22 => ?_)
                  · refine lv_iinc (v := z9_1 + (1 : Int32)) (lv' := [(4, .int (z9_1 + (1 : Int32))), (5, .int (0 : Int32)), (0, .ref a_t), (1, .int z9_0), (2, .int z4_1), (3, .int z6_1)]) hx hb dX9_measure_142 hl (k := 5) rfl (inc_ok (by decide)) (by decide) rfl (fun ls hl => ?_)
                    refine lv_goto (tgt := 58) hx hb dX9_measure_145 (by decide) ?_
                    have hK := leafK hB hK
                    have hK := elimL hK
                    exact hK H locs hP hD hS ls (lv_sub hl [2, 3, 4, 5, 0] rfl)
                  · exact absurd c_22 (by decide)
                · have hB := ifP c_21 hB
                  refine lv_iconst (v := 1) hx hb dX9_measure_119 (by decide) ?_
                  refine lv_goto (tgt := 124) hx hb dX9_measure_120 (by decide) ?_
                  refine lv_istore (lv' := [(5, .int (1 : Int32)), (0, .ref a_t), (1, .int z9_0), (2, .int z4_1), (3, .int z6_1), (4, .int z9_1)]) hx hb dX9_measure_124 hl (by decide) rfl (fun ls hl => ?_)
                  refine lv_iload hx hb dX9_measure_126 (lv_at hl 0 rfl) ?_
                  refine lv_if_eq (tgt := 142) hx hb dX9_measure_128 (by decide) (fun c_23 => ?_) (fun c_23 => ?_)
                  · exact absurd c_23 (by decide)
                  · refine lv_aload_n hx hb dX9_measure_131 rfl (lv_at hl 1 rfl) ?_
                    refine va_get (D := G) (ci := 9) (v := .ref a_t_far) (C := RX9) (T := TX9) (N := 26) hx hb hg inX9 hown hKT hP 0 rfl rfl 22 (by decide) (hg _ gF_X9_42) (fun _ h9 => h9) rfl dX9_measure_132 ?_
                    refine lv_iload_n hx hb dX9_measure_135 rfl (lv_at hl 4 rfl) ?_
                    refine lv_iload_n hx hb dX9_measure_136 rfl (lv_at hl 3 rfl) ?_
                    refine lv_iconst (v := 1) hx hb dX9_measure_137 (by decide) ?_
                    refine lv_iadd hx hb dX9_measure_138 ?_
                    obtain ⟨h_24, hB⟩ := ifS hB
                    refine va_iast hx hb hKT hP hD hS 8 0 rfl rfl h_24 dX9_measure_139 (fun H locs hP hD hS => ?_)
                    have hP : va_P G vwCl (wd_X9_measure cs a_t a_t_text a_t_opinions a_t_lines a_t_draftBook a_t_scribes a_t_turn a_t_bent a_t_need a_t_now a_t_isKept a_t_far a_t_marginOf a_t_marginSays v_t_trace v_t_typed v_t_needTold v_t_at v_t_start v_t_sort v_t_value v_t_fault v_t_target v_t_went v_t_ender v_t_had v_t_margins g_t_opinions g_t_lines g_t_scribes g_t_turn g_t_bent g_t_need g_t_now (upd z9_2 z6_1.toNatClampNeg (z4_1 + (1 : Int32)))) H := hP
                    have hD : va_D A (wd_X9_measure cs a_t a_t_text a_t_opinions a_t_lines a_t_draftBook a_t_scribes a_t_turn a_t_bent a_t_need a_t_now a_t_isKept a_t_far a_t_marginOf a_t_marginSays v_t_trace v_t_typed v_t_needTold v_t_at v_t_start v_t_sort v_t_value v_t_fault v_t_target v_t_went v_t_ender v_t_had v_t_margins g_t_opinions g_t_lines g_t_scribes g_t_turn g_t_bent g_t_need g_t_now (upd z9_2 z6_1.toNatClampNeg (z4_1 + (1 : Int32)))) := hD
                    refine lv_iconst (v := 1) hx hb dX9_measure_140 (by decide) ?_
                    refine lv_istore_n (lv' := [(1, .int (1 : Int32)), (5, .int (1 : Int32)), (0, .ref a_t), (2, .int z4_1), (3, .int z6_1), (4, .int z9_1)]) hx hb dX9_measure_141 rfl hl (by decide) rfl (fun ls hl => ?_)
                    refine lv_iinc (v := z9_1 + (1 : Int32)) (lv' := [(4, .int (z9_1 + (1 : Int32))), (1, .int (1 : Int32)), (5, .int (1 : Int32)), (0, .ref a_t), (2, .int z4_1), (3, .int z6_1)]) hx hb dX9_measure_142 hl (k := 5) rfl (inc_ok (by decide)) (by decide) rfl (fun ls hl => ?_)
                    refine lv_goto (tgt := 58) hx hb dX9_measure_145 (by decide) ?_
                    have hK := leafK hB hK
                    have hK := elimL hK
                    exact hK H locs hP hD hS ls (lv_sub hl [3, 1, 4, 5, 0] rfl)
  · have hB := ifN c_2 hB
    refine lv_aload_n hx hb dX9_measure_9 rfl (lv_at hl 0 rfl) ?_
    refine va_get (D := G) (ci := 9) (v := .ref a_t_far) (C := RX9) (T := TX9) (N := 26) hx hb hg inX9 hown hKT hP 0 rfl rfl 22 (by decide) (hg _ gF_X9_42) (fun _ h9 => h9) rfl dX9_measure_10 ?_
    refine lv_iload_n hx hb dX9_measure_13 rfl (lv_at hl 1 rfl) ?_
    refine lv_iload_n hx hb dX9_measure_14 rfl (lv_at hl 1 rfl) ?_
    refine lv_aload_n hx hb dX9_measure_15 rfl (lv_at hl 0 rfl) ?_
    refine va_get (D := G) (ci := 9) (v := .int v_t_target) (C := RX9) (T := TX9) (N := 26) hx hb hg inX9 hown hKT hP 0 rfl rfl 18 (by decide) (hg _ gF_X9_99) (fun _ h9 => h9) rfl dX9_measure_16 ?_
    refine lv_icmp_ne (tgt := 26) hx hb dX9_measure_19 (by decide) (fun c_25 => ?_) (fun c_25 => ?_)
    · have hB := ifN c_25 hB
      refine lv_bipush (v := -9) hx hb dX9_measure_26 (by decide) ?_
      obtain ⟨h_26, hB⟩ := ifS hB
      refine va_iast hx hb hKT hP hD hS 8 0 rfl rfl h_26 dX9_measure_28 (fun H locs hP hD hS => ?_)
      have hP : va_P G vwCl (wd_X9_measure cs a_t a_t_text a_t_opinions a_t_lines a_t_draftBook a_t_scribes a_t_turn a_t_bent a_t_need a_t_now a_t_isKept a_t_far a_t_marginOf a_t_marginSays v_t_trace v_t_typed v_t_needTold v_t_at v_t_start v_t_sort v_t_value v_t_fault v_t_target v_t_went v_t_ender v_t_had v_t_margins g_t_opinions g_t_lines g_t_scribes g_t_turn g_t_bent g_t_need g_t_now (upd z1_1 z1_0.toNatClampNeg (-9 : Int32))) H := hP
      have hD : va_D A (wd_X9_measure cs a_t a_t_text a_t_opinions a_t_lines a_t_draftBook a_t_scribes a_t_turn a_t_bent a_t_need a_t_now a_t_isKept a_t_far a_t_marginOf a_t_marginSays v_t_trace v_t_typed v_t_needTold v_t_at v_t_start v_t_sort v_t_value v_t_fault v_t_target v_t_went v_t_ender v_t_had v_t_margins g_t_opinions g_t_lines g_t_scribes g_t_turn g_t_bent g_t_need g_t_now (upd z1_1 z1_0.toNatClampNeg (-9 : Int32))) := hD
      refine lv_iinc (v := z1_0 + (1 : Int32)) (lv' := [(1, .int (z1_0 + (1 : Int32))), (0, .ref a_t)]) hx hb dX9_measure_29 hl (k := 1) rfl (inc_ok (by decide)) (by decide) rfl (fun ls hl => ?_)
      refine lv_goto (tgt := 2) hx hb dX9_measure_32 (by decide) ?_
      have hK := leafK hB hK
      have hK := elimL hK
      exact hK H locs hP hD hS ls (lv_sub hl [1, 0] rfl)
    · have hB := ifP c_25 hB
      refine lv_iconst (v := 0) hx hb dX9_measure_22 (by decide) ?_
      refine lv_goto (tgt := 28) hx hb dX9_measure_23 (by decide) ?_
      obtain ⟨h_27, hB⟩ := ifS hB
      refine va_iast hx hb hKT hP hD hS 8 0 rfl rfl h_27 dX9_measure_28 (fun H locs hP hD hS => ?_)
      have hP : va_P G vwCl (wd_X9_measure cs a_t a_t_text a_t_opinions a_t_lines a_t_draftBook a_t_scribes a_t_turn a_t_bent a_t_need a_t_now a_t_isKept a_t_far a_t_marginOf a_t_marginSays v_t_trace v_t_typed v_t_needTold v_t_at v_t_start v_t_sort v_t_value v_t_fault v_t_target v_t_went v_t_ender v_t_had v_t_margins g_t_opinions g_t_lines g_t_scribes g_t_turn g_t_bent g_t_need g_t_now (upd z1_1 z1_0.toNatClampNeg (0 : Int32))) H := hP
      have hD : va_D A (wd_X9_measure cs a_t a_t_text a_t_opinions a_t_lines a_t_draftBook a_t_scribes a_t_turn a_t_bent a_t_need a_t_now a_t_isKept a_t_far a_t_marginOf a_t_marginSays v_t_trace v_t_typed v_t_needTold v_t_at v_t_start v_t_sort v_t_value v_t_fault v_t_target v_t_went v_t_ender v_t_had v_t_margins g_t_opinions g_t_lines g_t_scribes g_t_turn g_t_bent g_t_need g_t_now (upd z1_1 z1_0.toNatClampNeg (0 : Int32))) := hD
      refine lv_iinc (v := z1_0 + (1 : Int32)) (lv' := [(1, .int (z1_0 + (1 : Int32))), (0, .ref a_t)]) hx hb dX9_measure_29 hl (k := 1) rfl (inc_ok (by decide)) (by decide) rfl (fun ls hl => ?_)
      refine lv_goto (tgt := 2) hx hb dX9_measure_32 (by decide) ?_
      have hK := leafK hB hK
      have hK := elimL hK
      exact hK H locs hP hD hS ls (lv_sub hl [1, 0] rfl)
def wd_X9_way (cs : Nat → ClassId) (a_t a_t_text a_t_opinions a_t_lines a_t_draftBook a_t_scribes a_t_turn a_t_bent a_t_need a_t_now a_t_isKept a_t_far a_t_marginOf a_t_marginSays : Nat) (v_t_trace : Int64) (v_t_typed : Int32) (v_t_needTold : Int32) (v_t_at : Int32) (v_t_start : Int32) (v_t_sort : Int32) (v_t_value : Int32) (v_t_fault : Int32) (v_t_target : Int32) (v_t_went : Int32) (v_t_ender : Int32) (v_t_had : Int32) (v_t_margins : Int32) (g_t_opinions : Nat → Int32) (g_t_lines : Nat → Int32) (g_t_scribes : Nat → Int32) (g_t_turn : Nat → Int32) (g_t_bent : Nat → Int32) (g_t_need : Nat → Int32) (g_t_now : Nat → Int32) (g_t_far : Nat → Int32) : va_W := [(a_t, .inr (9, [.long v_t_trace, .ref a_t_text, .int v_t_typed, .ref a_t_opinions, .ref a_t_lines, .ref a_t_draftBook, .ref a_t_scribes, .ref a_t_turn, .ref a_t_bent, .ref a_t_need, .int v_t_needTold, .int v_t_at, .int v_t_start, .int v_t_sort, .int v_t_value, .int v_t_fault, .ref a_t_now, .ref a_t_isKept, .int v_t_target, .int v_t_went, .int v_t_ender, .int v_t_had, .ref a_t_far, .ref a_t_marginOf, .ref a_t_marginSays, .int v_t_margins])), (a_t_opinions, .inl (cs 0, 2, .inl g_t_opinions)), (a_t_lines, .inl (cs 0, 2, .inl g_t_lines)), (a_t_scribes, .inl (cs 0, 2, .inl g_t_scribes)), (a_t_turn, .inl (cs 0, 12, .inl g_t_turn)), (a_t_bent, .inl (cs 0, 12, .inl g_t_bent)), (a_t_need, .inl (cs 0, 2, .inl g_t_need)), (a_t_now, .inl (cs 0, 300, .inl g_t_now)), (a_t_far, .inl (cs 0, 625, .inl g_t_far))]
def rm_X9_way : Room := { frames := 4, cells := 0, slots := 0, locals := 95 }
theorem mI_X9_way : MI yX9_way RX9 cX9_way 6 (some .int) 1 := ⟨gI_X9_way, gE_X9_way, gN_X9, gC_X9_way, by decide +kernel⟩
set_option maxHeartbeats 4000000 in
set_option maxRecDepth 100000 in
theorem k_X9_way (l : Launch) (G : va_G) (cs : Nat → ClassId) (a_t a_t_text a_t_opinions a_t_lines a_t_draftBook a_t_scribes a_t_turn a_t_bent a_t_need a_t_now a_t_isKept a_t_far a_t_marginOf a_t_marginSays : Nat) (v_t_trace : Int64) (v_t_typed : Int32) (v_t_needTold : Int32) (v_t_at : Int32) (v_t_start : Int32) (v_t_sort : Int32) (v_t_value : Int32) (v_t_fault : Int32) (v_t_target : Int32) (v_t_went : Int32) (v_t_ender : Int32) (v_t_had : Int32) (v_t_margins : Int32) (g_t_opinions : Nat → Int32) (g_t_lines : Nat → Int32) (g_t_scribes : Nat → Int32) (g_t_turn : Nat → Int32) (g_t_bent : Nat → Int32) (g_t_need : Nat → Int32) (g_t_now : Nat → Int32) (g_t_far : Nat → Int32) (p1 : Int32) (sz : Nat) (R0 : Int32 × (Nat → Int32)) (hB : f_X9_way v_t_target g_t_opinions g_t_lines g_t_scribes g_t_turn g_t_bent g_t_need g_t_now g_t_far p1 = some R0) : Met l yX9_way (.code yX9_way cX9_way 6 (some .int) :: GW) rm_X9_way (PcW G cs [.ref a_t, .int p1] (wd_X9_way cs a_t a_t_text a_t_opinions a_t_lines a_t_draftBook a_t_scribes a_t_turn a_t_bent a_t_need a_t_now a_t_isKept a_t_far a_t_marginOf a_t_marginSays v_t_trace v_t_typed v_t_needTold v_t_at v_t_start v_t_sort v_t_value v_t_fault v_t_target v_t_went v_t_ender v_t_had v_t_margins g_t_opinions g_t_lines g_t_scribes g_t_turn g_t_bent g_t_need g_t_now g_t_far) sz) (QcI G (va_A (wd_X9_way cs a_t a_t_text a_t_opinions a_t_lines a_t_draftBook a_t_scribes a_t_turn a_t_bent a_t_need a_t_now a_t_isKept a_t_far a_t_marginOf a_t_marginSays v_t_trace v_t_typed v_t_needTold v_t_at v_t_start v_t_sort v_t_value v_t_fault v_t_target v_t_went v_t_ender v_t_had v_t_margins g_t_opinions g_t_lines g_t_scribes g_t_turn g_t_bent g_t_need g_t_now g_t_far) sz) (wd_X9_way cs a_t a_t_text a_t_opinions a_t_lines a_t_draftBook a_t_scribes a_t_turn a_t_bent a_t_need a_t_now a_t_isKept a_t_far a_t_marginOf a_t_marginSays v_t_trace v_t_typed v_t_needTold v_t_at v_t_start v_t_sort v_t_value v_t_fault v_t_target v_t_went v_t_ender v_t_had v_t_margins g_t_opinions g_t_lines g_t_scribes g_t_turn g_t_bent g_t_need g_t_now R0.2) R0.1) 0 0 (va_A (wd_X9_way cs a_t a_t_text a_t_opinions a_t_lines a_t_draftBook a_t_scribes a_t_turn a_t_bent a_t_need a_t_now a_t_isKept a_t_far a_t_marginOf a_t_marginSays v_t_trace v_t_typed v_t_needTold v_t_at v_t_start v_t_sort v_t_value v_t_fault v_t_target v_t_went v_t_ender v_t_had v_t_margins g_t_opinions g_t_lines g_t_scribes g_t_turn g_t_bent g_t_need g_t_now g_t_far) sz) := by
  refine Met.ofW (cc := cX9_way) (maxL := 6) (ret := (some .int)) (by decide) rfl ?_
  intro p e s m args below meth c s₁ B hml hv
  obtain ⟨rfl, hsz, hP, hD0, hK, hN⟩ := hv
  have hx := B.exec
  have hb := B.bytes
  have hr := B.returns
  have hts := atoms_spec (ws := .code yX9_way cX9_way 6 (some .int) :: GW) B.pre
  have hg : ∀ w ∈ GW, w.before _ s = true := fun w h => hts w (List.mem_cons_of_mem _ h)
  have hown : s.vm.findClass RX9 = some m.cls := findClass_of_methodNamed B.named
  have hlocks := B.notSynchronized
  subst hsz
  have hD := hD0.self (sz := s.heap.size)
  generalize hAe : va_A (wd_X9_way cs a_t a_t_text a_t_opinions a_t_lines a_t_draftBook a_t_scribes a_t_turn a_t_bent a_t_need a_t_now a_t_isKept a_t_far a_t_marginOf a_t_marginSays v_t_trace v_t_typed v_t_needTold v_t_at v_t_start v_t_sort v_t_value v_t_fault v_t_target v_t_went v_t_ender v_t_had v_t_margins g_t_opinions g_t_lines g_t_scribes g_t_turn g_t_bent g_t_need g_t_now g_t_far) s.heap.size = A at hD ⊢
  have hA : ∀ q : Nat, s.heap.size ≤ q → A q := fun q h => by rw [← hAe]; exact Or.inr h
  have hS : va_S A s.heap s.heap [] := va_S.rf
  have hl := lv_entry ([.ref a_t, .int p1]) (n := 6) (Nat.le_of_ble_eq_true rfl)
  rw [lg_entry_eq]
  generalize (lg_sl ([.ref a_t, .int p1]) ++ List.replicate (6 - (lg_sl ([.ref a_t, .int p1])).length) Slot.unset).toArray = ls at hl ⊢
  have hl : lv_has ls 6 [(0, .ref a_t), (1, .int p1)] := hl
  obtain ⟨y, hB, hK0⟩ : ∃ y, f_X9_way v_t_target g_t_opinions g_t_lines g_t_scribes g_t_turn g_t_bent g_t_need g_t_now g_t_far p1 = some y ∧ KEnd R0 y := ⟨R0, hB, rfl⟩
  have hKT := hK
  have hK := hK0
  obtain ⟨H, hHe⟩ : ∃ H, H = s.heap := ⟨_, rfl⟩
  obtain ⟨locs, hLe⟩ : ∃ L : List Loc, L = [] := ⟨_, rfl⟩
  rw [← hHe] at hP
  have hS : va_S A s.heap H locs := by rw [hHe, hLe]; exact hS
  show W p l e rm_X9_way s m ([.ref a_t, .int p1] : List Value).toArray below meth c s.heap [] 0 0 _ _
  suffices hgo : W p l e rm_X9_way s m ([.ref a_t, .int p1] : List Value).toArray below meth c H locs 0 0 (MQ below (QcI G A (wd_X9_way cs a_t a_t_text a_t_opinions a_t_lines a_t_draftBook a_t_scribes a_t_turn a_t_bent a_t_need a_t_now a_t_isKept a_t_far a_t_marginOf a_t_marginSays v_t_trace v_t_typed v_t_needTold v_t_at v_t_start v_t_sort v_t_value v_t_fault v_t_target v_t_went v_t_ender v_t_had v_t_margins g_t_opinions g_t_lines g_t_scribes g_t_turn g_t_bent g_t_need g_t_now R0.2) R0.1) ([.ref a_t, .int p1] : List Value).toArray s 0 0 A) (F0 m 0 ls []) by rw [hHe, hLe] at hgo; exact hgo
  refine lv_iload_n hx hb dX9_way_0 rfl (lv_at hl 1 rfl) ?_
  refine lv_iconst (v := -1) hx hb dX9_way_1 (by decide) ?_
  refine lv_icmp_ge (tgt := 7) hx hb dX9_way_2 (by decide) (fun c_1 => ?_) (fun c_1 => ?_)
  · have hB := ifP c_1 hB
    refine lv_aload_n hx hb dX9_way_7 rfl (lv_at hl 0 rfl) ?_
    obtain ⟨q2, hq2, hB⟩ := bnd hB
    refine kw_v (WC := wd_X9_measure cs a_t a_t_text a_t_opinions a_t_lines a_t_draftBook a_t_scribes a_t_turn a_t_bent a_t_need a_t_now a_t_isKept a_t_far a_t_marginOf a_t_marginSays v_t_trace v_t_typed v_t_needTold v_t_at v_t_start v_t_sort v_t_value v_t_fault v_t_target v_t_went v_t_ender v_t_had v_t_margins g_t_opinions g_t_lines g_t_scribes g_t_turn g_t_bent g_t_need g_t_now g_t_far) (W1 := wd_X9_measure cs a_t a_t_text a_t_opinions a_t_lines a_t_draftBook a_t_scribes a_t_turn a_t_bent a_t_need a_t_now a_t_isKept a_t_far a_t_marginOf a_t_marginSays v_t_trace v_t_typed v_t_needTold v_t_at v_t_start v_t_sort v_t_value v_t_fault v_t_target v_t_went v_t_ender v_t_had v_t_margins g_t_opinions g_t_lines g_t_scribes g_t_turn g_t_bent g_t_need g_t_now q2) (W2 := wd_X9_way cs a_t a_t_text a_t_opinions a_t_lines a_t_draftBook a_t_scribes a_t_turn a_t_bent a_t_need a_t_now a_t_isKept a_t_far a_t_marginOf a_t_marginSays v_t_trace v_t_typed v_t_needTold v_t_at v_t_start v_t_sort v_t_value v_t_fault v_t_target v_t_went v_t_ender v_t_had v_t_margins g_t_opinions g_t_lines g_t_scribes g_t_turn g_t_bent g_t_need g_t_now q2) (rw_V (As := []) (rest := []) ⟨hx, hb, hml, hown, hg⟩ (k_X9_measure l G cs a_t a_t_text a_t_opinions a_t_lines a_t_draftBook a_t_scribes a_t_turn a_t_bent a_t_need a_t_now a_t_isKept a_t_far a_t_marginOf a_t_marginSays v_t_trace v_t_typed v_t_needTold v_t_at v_t_start v_t_sort v_t_value v_t_fault v_t_target v_t_went v_t_ender v_t_had v_t_margins g_t_opinions g_t_lines g_t_scribes g_t_turn g_t_bent g_t_need g_t_now g_t_far H.size q2 hq2) gM_X9_183 mI_X9_measure (rmk rfl) hP hD hKT hN 0 rfl rfl [0, 1, 2, 3, 4, 5, 6, 7, 8] rfl rfl rfl hl.1 rfl (Nat.le_of_ble_eq_true rfl) dX9_way_8) hP hD hS hA [0, 1, 2, 3, 4, 5, 6, 7, 8] [] [0, 1, 2, 3, 4, 5, 6, 7, 8] ⟨rfl, rfl, rfl, rfl, rfl, rfl, rfl⟩ (fun H locs hP hD hS => ?_)
    refine lv_aload_n hx hb dX9_way_11 rfl (lv_at hl 0 rfl) ?_
    refine va_get (D := G) (ci := 9) (v := .ref a_t_far) (C := RX9) (T := TX9) (N := 26) hx hb hg inX9 hown hKT hP 0 rfl rfl 22 (by decide) (hg _ gF_X9_42) (fun _ h9 => h9) rfl dX9_way_12 ?_
    refine lv_aload_n hx hb dX9_way_15 rfl (lv_at hl 0 rfl) ?_
    refine va_get (D := G) (ci := 9) (v := .ref a_t_now) (C := RX9) (T := TX9) (N := 26) hx hb hg inX9 hown hKT hP 0 rfl rfl 16 (by decide) (hg _ gF_X9_35) (fun _ h9 => h9) rfl dX9_way_16 ?_
    refine lv_iconst (v := 0) hx hb dX9_way_19 (by decide) ?_
    refine va_iald hx hb hKT hP 7 0 rfl rfl (vinC (by decide)) dX9_way_20 ?_
    obtain ⟨h_3, hB⟩ := ifS hB
    refine va_iald hx hb hKT hP 8 0 rfl rfl h_3 dX9_way_21 ?_
    refine lv_istore_n (lv' := [(2, .int (q2 (g_t_now (0 : Int32).toNatClampNeg).toNatClampNeg)), (0, .ref a_t), (1, .int p1)]) hx hb dX9_way_22 rfl hl (by decide) rfl (fun ls hl => ?_)
    refine lv_iload_n hx hb dX9_way_23 rfl (lv_at hl 2 rfl) ?_
    refine lv_iconst (v := -1) hx hb dX9_way_24 (by decide) ?_
    refine lv_icmp_eq (tgt := 33) hx hb dX9_way_25 (by decide) (fun c_4 => ?_) (fun c_4 => ?_)
    · have hB := ifP c_4 hB
      refine lv_iload_n hx hb dX9_way_33 rfl (lv_at hl 2 rfl) ?_
      refine lv_iconst (v := -1) hx hb dX9_way_34 (by decide) ?_
      refine lv_icmp_ne (tgt := 42) hx hb dX9_way_35 (by decide) (fun c_5 => ?_) (fun c_5 => ?_)
      · have hB := ifN c_5 hB
        refine lv_bipush (v := -9) hx hb dX9_way_42 (by decide) ?_
        have hK := leafK hB hK
        have hK : ((-9 : Int32), q2) = R0 := hK
        subst hK
        exact W.iret (v := (-9 : Int32)) hx hb hr (fun t ht hW => ⟨⟨_, (), rfl, rfl, by rw [ht]; exact hP, hD⟩, hS.F ht⟩) hS.2.2 dX9_way_44
      · have hB := ifP c_5 hB
        refine lv_iload_n hx hb dX9_way_38 rfl (lv_at hl 0 rfl) ?_
        refine lv_goto (tgt := 44) hx hb dX9_way_39 (by decide) ?_
        have hK := leafK hB hK
        have hK : (q2 (g_t_now (0 : Int32).toNatClampNeg).toNatClampNeg, q2) = R0 := hK
        subst hK
        exact W.iret (v := q2 (g_t_now (0 : Int32).toNatClampNeg).toNatClampNeg) hx hb hr (fun t ht hW => ⟨⟨_, (), rfl, rfl, by rw [ht]; exact hP, hD⟩, hS.F ht⟩) hS.2.2 dX9_way_44
    · have hB := ifN c_4 hB
      refine lv_iload_n hx hb dX9_way_28 rfl (lv_at hl 2 rfl) ?_
      refine lv_iload_n hx hb dX9_way_29 rfl (lv_at hl 0 rfl) ?_
      refine lv_icmp_lt (tgt := 45) hx hb dX9_way_30 (by decide) (fun c_6 => ?_) (fun c_6 => ?_)
      · have hB := ifP c_6 hB
        refine lv_aload_n hx hb dX9_way_45 rfl (lv_at hl 1 rfl) ?_
        refine va_get (D := G) (ci := 9) (v := .ref a_t_now) (C := RX9) (T := TX9) (N := 26) hx hb hg inX9 hown hKT hP 0 rfl rfl 16 (by decide) (hg _ gF_X9_35) (fun _ h9 => h9) rfl dX9_way_46 ?_
        refine lv_iconst (v := 0) hx hb dX9_way_49 (by decide) ?_
        refine va_iald hx hb hKT hP 7 0 rfl rfl (vinC (by decide)) dX9_way_50 ?_
        refine lv_istore_n (lv' := [(3, .int (g_t_now (0 : Int32).toNatClampNeg)), (2, .int (q2 (g_t_now (0 : Int32).toNatClampNeg).toNatClampNeg)), (0, .ref a_t), (1, .int p1)]) hx hb dX9_way_51 rfl hl (by decide) rfl (fun ls hl => ?_)
        refine lv_bipush (v := -9) hx hb dX9_way_52 (by decide) ?_
        refine lv_istore (lv' := [(4, .int (-9 : Int32)), (3, .int (g_t_now (0 : Int32).toNatClampNeg)), (2, .int (q2 (g_t_now (0 : Int32).toNatClampNeg).toNatClampNeg)), (0, .ref a_t), (1, .int p1)]) hx hb dX9_way_54 hl (by decide) rfl (fun ls hl => ?_)
        refine lv_iconst (v := 0) hx hb dX9_way_56 (by decide) ?_
        refine lv_istore (lv' := [(5, .int (0 : Int32)), (4, .int (-9 : Int32)), (3, .int (g_t_now (0 : Int32).toNatClampNeg)), (2, .int (q2 (g_t_now (0 : Int32).toNatClampNeg).toNatClampNeg)), (0, .ref a_t), (1, .int p1)]) hx hb dX9_way_57 hl (by decide) rfl (fun ls hl => ?_)
        refine lp_ind (Wh := fun (z7 : Int32 × Int32 × Int32) => ∀ (H : Heap) (locs : List Loc), va_P G vwCl (wd_X9_way cs a_t a_t_text a_t_opinions a_t_lines a_t_draftBook a_t_scribes a_t_turn a_t_bent a_t_need a_t_now a_t_isKept a_t_far a_t_marginOf a_t_marginSays v_t_trace v_t_typed v_t_needTold v_t_at v_t_start v_t_sort v_t_value v_t_fault v_t_target v_t_went v_t_ender v_t_had v_t_margins g_t_opinions g_t_lines g_t_scribes g_t_turn g_t_bent g_t_need g_t_now q2) H → va_D A (wd_X9_way cs a_t a_t_text a_t_opinions a_t_lines a_t_draftBook a_t_scribes a_t_turn a_t_bent a_t_need a_t_now a_t_isKept a_t_far a_t_marginOf a_t_marginSays v_t_trace v_t_typed v_t_needTold v_t_at v_t_start v_t_sort v_t_value v_t_fault v_t_target v_t_went v_t_ender v_t_had v_t_margins g_t_opinions g_t_lines g_t_scribes g_t_turn g_t_bent g_t_need g_t_now q2) → va_S A s.heap H locs → ∀ (ls : Array Slot), lv_has ls 6 [(0, .ref a_t), (1, .int p1), (2, .int (q2 (g_t_now (0 : Int32).toNatClampNeg).toNatClampNeg)), (3, .int z7.1), (4, .int z7.2.1), (5, .int z7.2.2)] → W p l e rm_X9_way s m ([.ref a_t, .int p1] : List Value).toArray below meth c H locs 0 0 (MQ below (QcI G A (wd_X9_way cs a_t a_t_text a_t_opinions a_t_lines a_t_draftBook a_t_scribes a_t_turn a_t_bent a_t_need a_t_now a_t_isKept a_t_far a_t_marginOf a_t_marginSays v_t_trace v_t_typed v_t_needTold v_t_at v_t_start v_t_sort v_t_value v_t_fault v_t_target v_t_went v_t_ender v_t_had v_t_margins g_t_opinions g_t_lines g_t_scribes g_t_turn g_t_bent g_t_need g_t_now R0.2) R0.1) ([.ref a_t, .int p1] : List Value).toArray s 0 0 A) (F0 m 59 ls [])) ?_ FU _ _ hB hK H locs hP hD hS ls (lv_sub hl [4, 5, 3, 2, 1, 0] rfl)
        rintro ⟨z7_0, z7_1, z7_2⟩ y hB hK H locs hP hD hS ls hl
        have hl : lv_has ls 6 [(0, .ref a_t), (1, .int p1), (2, .int (q2 (g_t_now (0 : Int32).toNatClampNeg).toNatClampNeg)), (3, .int z7_0), (4, .int z7_1), (5, .int z7_2)] := hl
        have hP : va_P G vwCl (wd_X9_way cs a_t a_t_text a_t_opinions a_t_lines a_t_draftBook a_t_scribes a_t_turn a_t_bent a_t_need a_t_now a_t_isKept a_t_far a_t_marginOf a_t_marginSays v_t_trace v_t_typed v_t_needTold v_t_at v_t_start v_t_sort v_t_value v_t_fault v_t_target v_t_went v_t_ender v_t_had v_t_margins g_t_opinions g_t_lines g_t_scribes g_t_turn g_t_bent g_t_need g_t_now q2) H := hP
        have hD : va_D A (wd_X9_way cs a_t a_t_text a_t_opinions a_t_lines a_t_draftBook a_t_scribes a_t_turn a_t_bent a_t_need a_t_now a_t_isKept a_t_far a_t_marginOf a_t_marginSays v_t_trace v_t_typed v_t_needTold v_t_at v_t_start v_t_sort v_t_value v_t_fault v_t_target v_t_went v_t_ender v_t_had v_t_margins g_t_opinions g_t_lines g_t_scribes g_t_turn g_t_bent g_t_need g_t_now q2) := hD
        refine lv_iload hx hb dX9_way_59 (lv_at hl 5 rfl) ?_
        refine lv_iload_n hx hb dX9_way_61 rfl (lv_at hl 1 rfl) ?_
        refine lv_icmp_gt (tgt := 131) hx hb dX9_way_62 (by decide) (fun c_8 => ?_) (fun c_8 => ?_)
        · have hB := ifP c_8 hB
          refine lv_iload hx hb dX9_way_131 (lv_at hl 4 rfl) ?_
          have hK := leafK hB hK
          have hK := elimR hK
          have hK : (z7_1, q2) = R0 := hK
          subst hK
          exact W.iret (v := z7_1) hx hb hr (fun t ht hW => ⟨⟨_, (), rfl, rfl, by rw [ht]; exact hP, hD⟩, hS.F ht⟩) hS.2.2 dX9_way_133
        · have hB := ifN c_8 hB
          refine lv_iconst (v := 0) hx hb dX9_way_65 (by decide) ?_
          refine lv_istore (lv' := [(4, .int (0 : Int32)), (0, .ref a_t), (1, .int p1), (2, .int (q2 (g_t_now (0 : Int32).toNatClampNeg).toNatClampNeg)), (3, .int z7_0), (5, .int z7_2)]) hx hb dX9_way_66 hl (by decide) rfl (fun ls hl => ?_)
          refine lp_ind (Wh := fun (z9 : Int32) => ∀ (H : Heap) (locs : List Loc), va_P G vwCl (wd_X9_way cs a_t a_t_text a_t_opinions a_t_lines a_t_draftBook a_t_scribes a_t_turn a_t_bent a_t_need a_t_now a_t_isKept a_t_far a_t_marginOf a_t_marginSays v_t_trace v_t_typed v_t_needTold v_t_at v_t_start v_t_sort v_t_value v_t_fault v_t_target v_t_went v_t_ender v_t_had v_t_margins g_t_opinions g_t_lines g_t_scribes g_t_turn g_t_bent g_t_need g_t_now q2) H → va_D A (wd_X9_way cs a_t a_t_text a_t_opinions a_t_lines a_t_draftBook a_t_scribes a_t_turn a_t_bent a_t_need a_t_now a_t_isKept a_t_far a_t_marginOf a_t_marginSays v_t_trace v_t_typed v_t_needTold v_t_at v_t_start v_t_sort v_t_value v_t_fault v_t_target v_t_went v_t_ender v_t_had v_t_margins g_t_opinions g_t_lines g_t_scribes g_t_turn g_t_bent g_t_need g_t_now q2) → va_S A s.heap H locs → ∀ (ls : Array Slot), lv_has ls 6 [(0, .ref a_t), (1, .int p1), (2, .int (q2 (g_t_now (0 : Int32).toNatClampNeg).toNatClampNeg)), (3, .int z7_0), (4, .int z9), (5, .int z7_2)] → W p l e rm_X9_way s m ([.ref a_t, .int p1] : List Value).toArray below meth c H locs 0 0 (MQ below (QcI G A (wd_X9_way cs a_t a_t_text a_t_opinions a_t_lines a_t_draftBook a_t_scribes a_t_turn a_t_bent a_t_need a_t_now a_t_isKept a_t_far a_t_marginOf a_t_marginSays v_t_trace v_t_typed v_t_needTold v_t_at v_t_start v_t_sort v_t_value v_t_fault v_t_target v_t_went v_t_ender v_t_had v_t_margins g_t_opinions g_t_lines g_t_scribes g_t_turn g_t_bent g_t_need g_t_now R0.2) R0.1) ([.ref a_t, .int p1] : List Value).toArray s 0 0 A) (F0 m 68 ls [])) ?_ FU _ _ hB hK H locs hP hD hS ls (lv_sub hl [1, 2, 3, 4, 0, 5] rfl)
          rintro z9 y hB hK H locs hP hD hS ls hl
          have hl : lv_has ls 6 [(0, .ref a_t), (1, .int p1), (2, .int (q2 (g_t_now (0 : Int32).toNatClampNeg).toNatClampNeg)), (3, .int z7_0), (4, .int z9), (5, .int z7_2)] := hl
          have hP : va_P G vwCl (wd_X9_way cs a_t a_t_text a_t_opinions a_t_lines a_t_draftBook a_t_scribes a_t_turn a_t_bent a_t_need a_t_now a_t_isKept a_t_far a_t_marginOf a_t_marginSays v_t_trace v_t_typed v_t_needTold v_t_at v_t_start v_t_sort v_t_value v_t_fault v_t_target v_t_went v_t_ender v_t_had v_t_margins g_t_opinions g_t_lines g_t_scribes g_t_turn g_t_bent g_t_need g_t_now q2) H := hP
          have hD : va_D A (wd_X9_way cs a_t a_t_text a_t_opinions a_t_lines a_t_draftBook a_t_scribes a_t_turn a_t_bent a_t_need a_t_now a_t_isKept a_t_far a_t_marginOf a_t_marginSays v_t_trace v_t_typed v_t_needTold v_t_at v_t_start v_t_sort v_t_value v_t_fault v_t_target v_t_went v_t_ender v_t_had v_t_margins g_t_opinions g_t_lines g_t_scribes g_t_turn g_t_bent g_t_need g_t_now q2) := hD
          refine lv_aload_n hx hb dX9_way_68 rfl (lv_at hl 0 rfl) ?_
          obtain ⟨q10, hq10, hB⟩ := bnd hB
          refine kr_V (WC := wd_X9_boughtIn cs a_t a_t_text a_t_opinions a_t_lines a_t_draftBook a_t_scribes a_t_turn a_t_bent a_t_need a_t_now a_t_isKept a_t_far a_t_marginOf a_t_marginSays v_t_trace v_t_typed v_t_needTold v_t_at v_t_start v_t_sort v_t_value v_t_fault v_t_target v_t_went v_t_ender v_t_had v_t_margins g_t_scribes g_t_now) (As := []) (rest := []) (r0 := q10) ⟨hx, hb, hml, hown, hg⟩ (k_X9_boughtIn l G cs a_t a_t_text a_t_opinions a_t_lines a_t_draftBook a_t_scribes a_t_turn a_t_bent a_t_need a_t_now a_t_isKept a_t_far a_t_marginOf a_t_marginSays v_t_trace v_t_typed v_t_needTold v_t_at v_t_start v_t_sort v_t_value v_t_fault v_t_target v_t_went v_t_ender v_t_had v_t_margins g_t_scribes g_t_now q10 hq10) gM_X9_176 mI_X9_boughtIn (rmk rfl) hP hKT hN 0 rfl rfl [0, 3, 7] rfl rfl hl.1 rfl (Nat.le_of_ble_eq_true rfl) dX9_way_69 ?_
          refine lv_iload hx hb dX9_way_72 (lv_at hl 4 rfl) ?_
          refine lj_ishr hx hb dX9_way_74 ?_
          refine lv_iconst (v := 1) hx hb dX9_way_75 (by decide) ?_
          refine lv_iand hx hb dX9_way_76 ?_
          refine lv_if_eq (tgt := 111) hx hb dX9_way_77 (by decide) (fun c_11 => ?_) (fun c_11 => ?_)
          · have hB := ifP c_11 hB
            refine lv_iinc (v := z9 + (1 : Int32)) (lv' := [(4, .int (z9 + (1 : Int32))), (0, .ref a_t), (1, .int p1), (2, .int (q2 (g_t_now (0 : Int32).toNatClampNeg).toNatClampNeg)), (3, .int z7_0), (5, .int z7_2)]) hx hb dX9_way_111 hl (k := 4) rfl (inc_ok (by decide)) (by decide) rfl (fun ls hl => ?_)
            refine lv_goto (tgt := 68) hx hb dX9_way_114 (by decide) ?_
            have hK := leafK hB hK
            have hK := elimL hK
            exact hK H locs hP hD hS ls (lv_sub hl [1, 2, 3, 4, 0, 5] rfl)
          · have hB := ifN c_11 hB
            refine lv_aload_n hx hb dX9_way_80 rfl (lv_at hl 0 rfl) ?_
            refine lv_iload hx hb dX9_way_81 (lv_at hl 4 rfl) ?_
            refine lv_iload_n hx hb dX9_way_83 rfl (lv_at hl 3 rfl) ?_
            obtain ⟨q12, hq12, hB⟩ := bnd hB
            refine kr_V (WC := wd_X9_isConvinced cs a_t a_t_text a_t_opinions a_t_lines a_t_draftBook a_t_scribes a_t_turn a_t_bent a_t_need a_t_now a_t_isKept a_t_far a_t_marginOf a_t_marginSays v_t_trace v_t_typed v_t_needTold v_t_at v_t_start v_t_sort v_t_value v_t_fault v_t_target v_t_went v_t_ender v_t_had v_t_margins g_t_opinions g_t_lines g_t_turn g_t_bent g_t_need) (As := [.int z9, .int z7_0]) (rest := []) (r0 := q12) ⟨hx, hb, hml, hown, hg⟩ (k_X9_isConvinced l G cs a_t a_t_text a_t_opinions a_t_lines a_t_draftBook a_t_scribes a_t_turn a_t_bent a_t_need a_t_now a_t_isKept a_t_far a_t_marginOf a_t_marginSays v_t_trace v_t_typed v_t_needTold v_t_at v_t_start v_t_sort v_t_value v_t_fault v_t_target v_t_went v_t_ender v_t_had v_t_margins g_t_opinions g_t_lines g_t_turn g_t_bent g_t_need z9 z7_0 q12 hq12) gM_X9_136 mI_X9_isConvinced (rmk rfl) hP hKT hN 0 rfl rfl [0, 1, 2, 4, 5, 6] rfl rfl hl.1 rfl (Nat.le_of_ble_eq_true rfl) dX9_way_84 ?_
            refine lv_if_ne (tgt := 111) hx hb dX9_way_87 (by decide) (fun c_13 => ?_) (fun c_13 => ?_)
            · have hB := ifN c_13 hB
              refine lv_iinc (v := z9 + (1 : Int32)) (lv' := [(4, .int (z9 + (1 : Int32))), (0, .ref a_t), (1, .int p1), (2, .int (q2 (g_t_now (0 : Int32).toNatClampNeg).toNatClampNeg)), (3, .int z7_0), (5, .int z7_2)]) hx hb dX9_way_111 hl (k := 4) rfl (inc_ok (by decide)) (by decide) rfl (fun ls hl => ?_)
              refine lv_goto (tgt := 68) hx hb dX9_way_114 (by decide) ?_
              have hK := leafK hB hK
              have hK := elimL hK
              exact hK H locs hP hD hS ls (lv_sub hl [1, 2, 3, 4, 0, 5] rfl)
            · have hB := ifP c_13 hB
              refine lv_aload_n hx hb dX9_way_90 rfl (lv_at hl 0 rfl) ?_
              refine va_get (D := G) (ci := 9) (v := .ref a_t_far) (C := RX9) (T := TX9) (N := 26) hx hb hg inX9 hown hKT hP 0 rfl rfl 22 (by decide) (hg _ gF_X9_42) (fun _ h9 => h9) rfl dX9_way_91 ?_
              refine lv_aload_n hx hb dX9_way_94 rfl (lv_at hl 0 rfl) ?_
              refine lv_iload hx hb dX9_way_95 (lv_at hl 4 rfl) ?_
              refine lv_iload_n hx hb dX9_way_97 rfl (lv_at hl 3 rfl) ?_
              obtain ⟨q14, hq14, hB⟩ := bnd hB
              refine kr_V (WC := wd_X9_copyOf cs a_t a_t_text a_t_opinions a_t_lines a_t_draftBook a_t_scribes a_t_turn a_t_bent a_t_need a_t_now a_t_isKept a_t_far a_t_marginOf a_t_marginSays v_t_trace v_t_typed v_t_needTold v_t_at v_t_start v_t_sort v_t_value v_t_fault v_t_target v_t_went v_t_ender v_t_had v_t_margins g_t_opinions g_t_lines g_t_turn g_t_bent) (As := [.int z9, .int z7_0]) (rest := [.ref a_t_far]) (r0 := q14) ⟨hx, hb, hml, hown, hg⟩ (k_X9_copyOf l G cs a_t a_t_text a_t_opinions a_t_lines a_t_draftBook a_t_scribes a_t_turn a_t_bent a_t_need a_t_now a_t_isKept a_t_far a_t_marginOf a_t_marginSays v_t_trace v_t_typed v_t_needTold v_t_at v_t_start v_t_sort v_t_value v_t_fault v_t_target v_t_went v_t_ender v_t_had v_t_margins g_t_opinions g_t_lines g_t_turn g_t_bent z9 z7_0 q14 hq14) gM_X9_126 mI_X9_copyOf (rmk rfl) hP hKT hN 0 rfl rfl [0, 1, 2, 4, 5] rfl rfl hl.1 rfl (Nat.le_of_ble_eq_true rfl) dX9_way_98 ?_
              obtain ⟨h_15, hB⟩ := ifS hB
              refine va_iald hx hb hKT hP 8 0 rfl rfl h_15 dX9_way_101 ?_
              refine lv_iload_n hx hb dX9_way_102 rfl (lv_at hl 2 rfl) ?_
              refine lv_iload hx hb dX9_way_103 (lv_at hl 5 rfl) ?_
              refine lv_isub hx hb dX9_way_105 ?_
              refine lv_iconst (v := 1) hx hb dX9_way_106 (by decide) ?_
              refine lv_isub hx hb dX9_way_107 ?_
              refine lv_icmp_eq (tgt := 117) hx hb dX9_way_108 (by decide) (fun c_16 => ?_) (fun c_16 => ?_)
              · have hB := ifP c_16 hB
                refine lv_aload_n hx hb dX9_way_117 rfl (lv_at hl 0 rfl) ?_
                refine lv_iload hx hb dX9_way_118 (lv_at hl 4 rfl) ?_
                refine lv_iload_n hx hb dX9_way_120 rfl (lv_at hl 3 rfl) ?_
                obtain ⟨q17, hq17, hB⟩ := bnd hB
                refine kr_V (WC := wd_X9_copyOf cs a_t a_t_text a_t_opinions a_t_lines a_t_draftBook a_t_scribes a_t_turn a_t_bent a_t_need a_t_now a_t_isKept a_t_far a_t_marginOf a_t_marginSays v_t_trace v_t_typed v_t_needTold v_t_at v_t_start v_t_sort v_t_value v_t_fault v_t_target v_t_went v_t_ender v_t_had v_t_margins g_t_opinions g_t_lines g_t_turn g_t_bent) (As := [.int z9, .int z7_0]) (rest := []) (r0 := q17) ⟨hx, hb, hml, hown, hg⟩ (k_X9_copyOf l G cs a_t a_t_text a_t_opinions a_t_lines a_t_draftBook a_t_scribes a_t_turn a_t_bent a_t_need a_t_now a_t_isKept a_t_far a_t_marginOf a_t_marginSays v_t_trace v_t_typed v_t_needTold v_t_at v_t_start v_t_sort v_t_value v_t_fault v_t_target v_t_went v_t_ender v_t_had v_t_margins g_t_opinions g_t_lines g_t_turn g_t_bent z9 z7_0 q17 hq17) gM_X9_126 mI_X9_copyOf (rmk rfl) hP hKT hN 0 rfl rfl [0, 1, 2, 4, 5] rfl rfl hl.1 rfl (Nat.le_of_ble_eq_true rfl) dX9_way_121 ?_
                refine lv_istore_n (lv' := [(3, .int q17), (0, .ref a_t), (1, .int p1), (2, .int (q2 (g_t_now (0 : Int32).toNatClampNeg).toNatClampNeg)), (4, .int z9), (5, .int z7_2)]) hx hb dX9_way_124 rfl hl (by decide) rfl (fun ls hl => ?_)
                refine lv_iinc (v := z7_2 + (1 : Int32)) (lv' := [(5, .int (z7_2 + (1 : Int32))), (3, .int q17), (0, .ref a_t), (1, .int p1), (2, .int (q2 (g_t_now (0 : Int32).toNatClampNeg).toNatClampNeg)), (4, .int z9)]) hx hb dX9_way_125 hl (k := 5) rfl (inc_ok (by decide)) (by decide) rfl (fun ls hl => ?_)
                refine lv_goto (tgt := 59) hx hb dX9_way_128 (by decide) ?_
                have hK := leafK hB hK
                have hK := elimR hK
                have hK := elimL hK
                exact hK H locs hP hD hS ls (lv_sub hl [2, 3, 4, 1, 5, 0] rfl)
              · have hB := ifN c_16 hB
                refine lv_iinc (v := z9 + (1 : Int32)) (lv' := [(4, .int (z9 + (1 : Int32))), (0, .ref a_t), (1, .int p1), (2, .int (q2 (g_t_now (0 : Int32).toNatClampNeg).toNatClampNeg)), (3, .int z7_0), (5, .int z7_2)]) hx hb dX9_way_111 hl (k := 4) rfl (inc_ok (by decide)) (by decide) rfl (fun ls hl => ?_)
                refine lv_goto (tgt := 68) hx hb dX9_way_114 (by decide) ?_
                have hK := leafK hB hK
                have hK := elimL hK
                exact hK H locs hP hD hS ls (lv_sub hl [1, 2, 3, 4, 0, 5] rfl)
      · have hB := ifN c_6 hB
        refine lv_iload_n hx hb dX9_way_33 rfl (lv_at hl 2 rfl) ?_
        refine lv_iconst (v := -1) hx hb dX9_way_34 (by decide) ?_
        refine lv_icmp_ne (tgt := 42) hx hb dX9_way_35 (by decide) (fun c_18 => ?_) (fun c_18 => ?_)
        · have hB := ifN c_18 hB
          refine lv_bipush (v := -9) hx hb dX9_way_42 (by decide) ?_
          have hK := leafK hB hK
          have hK : ((-9 : Int32), q2) = R0 := hK
          subst hK
          exact W.iret (v := (-9 : Int32)) hx hb hr (fun t ht hW => ⟨⟨_, (), rfl, rfl, by rw [ht]; exact hP, hD⟩, hS.F ht⟩) hS.2.2 dX9_way_44
        · have hB := ifP c_18 hB
          refine lv_iload_n hx hb dX9_way_38 rfl (lv_at hl 0 rfl) ?_
          refine lv_goto (tgt := 44) hx hb dX9_way_39 (by decide) ?_
          have hK := leafK hB hK
          have hK : (q2 (g_t_now (0 : Int32).toNatClampNeg).toNatClampNeg, q2) = R0 := hK
          subst hK
          exact W.iret (v := q2 (g_t_now (0 : Int32).toNatClampNeg).toNatClampNeg) hx hb hr (fun t ht hW => ⟨⟨_, (), rfl, rfl, by rw [ht]; exact hP, hD⟩, hS.F ht⟩) hS.2.2 dX9_way_44
  · have hB := ifN c_1 hB
    refine lv_iconst (v := -1) hx hb dX9_way_5 (by decide) ?_
    have hK := leafK hB hK
    have hK : ((-1 : Int32), g_t_far) = R0 := hK
    subst hK
    exact W.iret (v := (-1 : Int32)) hx hb hr (fun t ht hW => ⟨⟨_, (), rfl, rfl, by rw [ht]; exact hP, hD⟩, hS.F ht⟩) hS.2.2 dX9_way_6
def wd_X9_from (cs : Nat → ClassId) (a_t a_t_text a_t_opinions a_t_lines a_t_draftBook a_t_scribes a_t_turn a_t_bent a_t_need a_t_now a_t_isKept a_t_far a_t_marginOf a_t_marginSays : Nat) (v_t_trace : Int64) (v_t_typed : Int32) (v_t_needTold : Int32) (v_t_at : Int32) (v_t_start : Int32) (v_t_sort : Int32) (v_t_value : Int32) (v_t_fault : Int32) (v_t_target : Int32) (v_t_went : Int32) (v_t_ender : Int32) (v_t_had : Int32) (v_t_margins : Int32) (g_t_opinions : Nat → Int32) (g_t_lines : Nat → Int32) (g_t_scribes : Nat → Int32) (g_t_turn : Nat → Int32) (g_t_bent : Nat → Int32) (g_t_need : Nat → Int32) (g_t_now : Nat → Int32) : va_W := [(a_t, .inr (9, [.long v_t_trace, .ref a_t_text, .int v_t_typed, .ref a_t_opinions, .ref a_t_lines, .ref a_t_draftBook, .ref a_t_scribes, .ref a_t_turn, .ref a_t_bent, .ref a_t_need, .int v_t_needTold, .int v_t_at, .int v_t_start, .int v_t_sort, .int v_t_value, .int v_t_fault, .ref a_t_now, .ref a_t_isKept, .int v_t_target, .int v_t_went, .int v_t_ender, .int v_t_had, .ref a_t_far, .ref a_t_marginOf, .ref a_t_marginSays, .int v_t_margins])), (a_t_opinions, .inl (cs 0, 2, .inl g_t_opinions)), (a_t_lines, .inl (cs 0, 2, .inl g_t_lines)), (a_t_scribes, .inl (cs 0, 2, .inl g_t_scribes)), (a_t_turn, .inl (cs 0, 12, .inl g_t_turn)), (a_t_bent, .inl (cs 0, 12, .inl g_t_bent)), (a_t_need, .inl (cs 0, 2, .inl g_t_need)), (a_t_now, .inl (cs 0, 300, .inl g_t_now))]
def rm_X9_from : Room := { frames := 5, cells := 0, slots := 0, locals := 115 }
theorem mI_X9_from : MI yX9_from RX9 cX9_from 2 (some .int) 1 := ⟨gI_X9_from, gE_X9_from, gN_X9, gC_X9_from, by decide +kernel⟩
set_option maxHeartbeats 4000000 in
set_option maxRecDepth 100000 in
theorem k_X9_from (l : Launch) (G : va_G) (cs : Nat → ClassId) (a_t a_t_text a_t_opinions a_t_lines a_t_draftBook a_t_scribes a_t_turn a_t_bent a_t_need a_t_now a_t_isKept a_t_far a_t_marginOf a_t_marginSays : Nat) (v_t_trace : Int64) (v_t_typed : Int32) (v_t_needTold : Int32) (v_t_at : Int32) (v_t_start : Int32) (v_t_sort : Int32) (v_t_value : Int32) (v_t_fault : Int32) (v_t_target : Int32) (v_t_went : Int32) (v_t_ender : Int32) (v_t_had : Int32) (v_t_margins : Int32) (g_t_opinions : Nat → Int32) (g_t_lines : Nat → Int32) (g_t_scribes : Nat → Int32) (g_t_turn : Nat → Int32) (g_t_bent : Nat → Int32) (g_t_need : Nat → Int32) (g_t_now : Nat → Int32) (p1 : Int32) (R0 : Int32) (hB : f_X9_from g_t_opinions g_t_lines g_t_scribes g_t_turn g_t_bent g_t_need g_t_now p1 = some R0) : Met l yX9_from (.code yX9_from cX9_from 2 (some .int) :: GW) rm_X9_from (PcR G cs [.ref a_t, .int p1] (wd_X9_from cs a_t a_t_text a_t_opinions a_t_lines a_t_draftBook a_t_scribes a_t_turn a_t_bent a_t_need a_t_now a_t_isKept a_t_far a_t_marginOf a_t_marginSays v_t_trace v_t_typed v_t_needTold v_t_at v_t_start v_t_sort v_t_value v_t_fault v_t_target v_t_went v_t_ender v_t_had v_t_margins g_t_opinions g_t_lines g_t_scribes g_t_turn g_t_bent g_t_need g_t_now)) (vp_Si (fun r => r = R0)) 0 0 (fun _ => False) := by
  refine Met.ofW (cc := cX9_from) (maxL := 2) (ret := (some .int)) (by decide) rfl ?_
  intro p e s m args below meth c s₁ B hml hv
  obtain ⟨rfl, hP, hK, hN⟩ := hv
  have hx := B.exec
  have hb := B.bytes
  have hr := B.returns
  have hts := atoms_spec (ws := .code yX9_from cX9_from 2 (some .int) :: GW) B.pre
  have hg : ∀ w ∈ GW, w.before _ s = true := fun w h => hts w (List.mem_cons_of_mem _ h)
  have hown : s.vm.findClass RX9 = some m.cls := findClass_of_methodNamed B.named
  have hlocks := B.notSynchronized
  have hl := lv_entry ([.ref a_t, .int p1]) (n := 2) (Nat.le_of_ble_eq_true rfl)
  rw [lg_entry_eq]
  generalize (lg_sl ([.ref a_t, .int p1]) ++ List.replicate (2 - (lg_sl ([.ref a_t, .int p1])).length) Slot.unset).toArray = ls at hl ⊢
  have hl : lv_has ls 2 [(0, .ref a_t), (1, .int p1)] := hl
  obtain ⟨y, hB, hK0⟩ : ∃ y, f_X9_from g_t_opinions g_t_lines g_t_scribes g_t_turn g_t_bent g_t_need g_t_now p1 = some y ∧ KEnd R0 y := ⟨R0, hB, rfl⟩
  have hKT := hK
  have hK := hK0
  show W p l e rm_X9_from s m ([.ref a_t, .int p1] : List Value).toArray below meth c s.heap [] 0 0 (MQ below (vp_Si (fun r => r = R0)) ([.ref a_t, .int p1] : List Value).toArray s 0 0 (fun _ => False)) (F0 m 0 ls [])
  refine lv_aload_n hx hb dX9_from_0 rfl (lv_at hl 0 rfl) ?_
  refine lv_iload_n hx hb dX9_from_1 rfl (lv_at hl 1 rfl) ?_
  obtain ⟨q1, hq1, hB⟩ := bnd hB
  refine kr_V (WC := wd_X9_isScribe cs a_t a_t_text a_t_opinions a_t_lines a_t_draftBook a_t_scribes a_t_turn a_t_bent a_t_need a_t_now a_t_isKept a_t_far a_t_marginOf a_t_marginSays v_t_trace v_t_typed v_t_needTold v_t_at v_t_start v_t_sort v_t_value v_t_fault v_t_target v_t_went v_t_ender v_t_had v_t_margins g_t_scribes) (As := [.int p1]) (rest := []) (r0 := q1) ⟨hx, hb, hml, hown, hg⟩ (k_X9_isScribe l G cs a_t a_t_text a_t_opinions a_t_lines a_t_draftBook a_t_scribes a_t_turn a_t_bent a_t_need a_t_now a_t_isKept a_t_far a_t_marginOf a_t_marginSays v_t_trace v_t_typed v_t_needTold v_t_at v_t_start v_t_sort v_t_value v_t_fault v_t_target v_t_went v_t_ender v_t_had v_t_margins g_t_scribes p1 q1 hq1) gM_X9_133 mI_X9_isScribe (rmk rfl) hP hKT hN 0 rfl rfl [0, 3] rfl rfl hl.1 rfl (Nat.le_of_ble_eq_true rfl) dX9_from_2 ?_
  refine lv_if_eq (tgt := 16) hx hb dX9_from_5 (by decide) (fun c_2 => ?_) (fun c_2 => ?_)
  · have hB := ifP c_2 hB
    refine lv_iconst (v := -1) hx hb dX9_from_16 (by decide) ?_
    have hK := leafK hB hK
    have hK : (-1 : Int32) = R0 := hK
    subst hK
    exact W.iret (v := (-1 : Int32)) hx hb hr (fun t ht hW => ⟨_, rfl, rfl, ht⟩) (fun _ h => by cases h) dX9_from_17
  · have hB := ifN c_2 hB
    refine lv_aload_n hx hb dX9_from_8 rfl (lv_at hl 0 rfl) ?_
    refine lv_iload_n hx hb dX9_from_9 rfl (lv_at hl 1 rfl) ?_
    obtain ⟨q3, hq3, hB⟩ := bnd hB
    refine kr_V (WC := wd_X9_fromOf cs a_t a_t_text a_t_opinions a_t_lines a_t_draftBook a_t_scribes a_t_turn a_t_bent a_t_need a_t_now a_t_isKept a_t_far a_t_marginOf a_t_marginSays v_t_trace v_t_typed v_t_needTold v_t_at v_t_start v_t_sort v_t_value v_t_fault v_t_target v_t_went v_t_ender v_t_had v_t_margins g_t_opinions g_t_lines g_t_turn g_t_bent g_t_need g_t_now) (As := [.int p1]) (rest := []) (r0 := q3) ⟨hx, hb, hml, hown, hg⟩ (k_X9_fromOf l G cs a_t a_t_text a_t_opinions a_t_lines a_t_draftBook a_t_scribes a_t_turn a_t_bent a_t_need a_t_now a_t_isKept a_t_far a_t_marginOf a_t_marginSays v_t_trace v_t_typed v_t_needTold v_t_at v_t_start v_t_sort v_t_value v_t_fault v_t_target v_t_went v_t_ender v_t_had v_t_margins g_t_opinions g_t_lines g_t_turn g_t_bent g_t_need g_t_now p1 q3 hq3) gM_X9_158 mI_X9_fromOf (rmk rfl) hP hKT hN 0 rfl rfl [0, 1, 2, 4, 5, 6, 7] rfl rfl hl.1 rfl (Nat.le_of_ble_eq_true rfl) dX9_from_10 ?_
    refine lv_goto (tgt := 17) hx hb dX9_from_13 (by decide) ?_
    have hK := leafK hB hK
    have hK : q3 = R0 := hK
    subst hK
    exact W.iret (v := q3) hx hb hr (fun t ht hW => ⟨_, rfl, rfl, ht⟩) (fun _ h => by cases h) dX9_from_17
def wd_X9_saw (cs : Nat → ClassId) (a_t a_t_text a_t_opinions a_t_lines a_t_draftBook a_t_scribes a_t_turn a_t_bent a_t_need a_t_now a_t_isKept a_t_far a_t_marginOf a_t_marginSays : Nat) (v_t_trace : Int64) (v_t_typed : Int32) (v_t_needTold : Int32) (v_t_at : Int32) (v_t_start : Int32) (v_t_sort : Int32) (v_t_value : Int32) (v_t_fault : Int32) (v_t_target : Int32) (v_t_went : Int32) (v_t_ender : Int32) (v_t_had : Int32) (v_t_margins : Int32) (g_t_opinions : Nat → Int32) (g_t_marginOf : Nat → Int32) (g_t_marginSays : Nat → Int32) : va_W := [(a_t, .inr (9, [.long v_t_trace, .ref a_t_text, .int v_t_typed, .ref a_t_opinions, .ref a_t_lines, .ref a_t_draftBook, .ref a_t_scribes, .ref a_t_turn, .ref a_t_bent, .ref a_t_need, .int v_t_needTold, .int v_t_at, .int v_t_start, .int v_t_sort, .int v_t_value, .int v_t_fault, .ref a_t_now, .ref a_t_isKept, .int v_t_target, .int v_t_went, .int v_t_ender, .int v_t_had, .ref a_t_far, .ref a_t_marginOf, .ref a_t_marginSays, .int v_t_margins])), (a_t_opinions, .inl (cs 0, 2, .inl g_t_opinions)), (a_t_marginOf, .inl (cs 0, 6, .inl g_t_marginOf)), (a_t_marginSays, .inl (cs 0, 6, .inl g_t_marginSays))]
def rm_X9_saw : Room := { frames := 2, cells := 0, slots := 0, locals := 43 }
theorem mI_X9_saw : MI yX9_saw RX9 cX9_saw 3 (some .int) 2 := ⟨gI_X9_saw, gE_X9_saw, gN_X9, gC_X9_saw, by decide +kernel⟩
set_option maxHeartbeats 4000000 in
set_option maxRecDepth 100000 in
theorem k_X9_saw (l : Launch) (G : va_G) (cs : Nat → ClassId) (a_t a_t_text a_t_opinions a_t_lines a_t_draftBook a_t_scribes a_t_turn a_t_bent a_t_need a_t_now a_t_isKept a_t_far a_t_marginOf a_t_marginSays : Nat) (v_t_trace : Int64) (v_t_typed : Int32) (v_t_needTold : Int32) (v_t_at : Int32) (v_t_start : Int32) (v_t_sort : Int32) (v_t_value : Int32) (v_t_fault : Int32) (v_t_target : Int32) (v_t_went : Int32) (v_t_ender : Int32) (v_t_had : Int32) (v_t_margins : Int32) (g_t_opinions : Nat → Int32) (g_t_marginOf : Nat → Int32) (g_t_marginSays : Nat → Int32) (p1 p2 : Int32) (sz : Nat) (R0 : Int32 × Int32 × (Nat → Int32) × (Nat → Int32)) (hB : f_X9_saw v_t_margins g_t_opinions g_t_marginOf g_t_marginSays p1 p2 = some R0) : Met l yX9_saw (.code yX9_saw cX9_saw 3 (some .int) :: GW) rm_X9_saw (PcW G cs [.ref a_t, .int p1, .int p2] (wd_X9_saw cs a_t a_t_text a_t_opinions a_t_lines a_t_draftBook a_t_scribes a_t_turn a_t_bent a_t_need a_t_now a_t_isKept a_t_far a_t_marginOf a_t_marginSays v_t_trace v_t_typed v_t_needTold v_t_at v_t_start v_t_sort v_t_value v_t_fault v_t_target v_t_went v_t_ender v_t_had v_t_margins g_t_opinions g_t_marginOf g_t_marginSays) sz) (QcI G (va_A (wd_X9_saw cs a_t a_t_text a_t_opinions a_t_lines a_t_draftBook a_t_scribes a_t_turn a_t_bent a_t_need a_t_now a_t_isKept a_t_far a_t_marginOf a_t_marginSays v_t_trace v_t_typed v_t_needTold v_t_at v_t_start v_t_sort v_t_value v_t_fault v_t_target v_t_went v_t_ender v_t_had v_t_margins g_t_opinions g_t_marginOf g_t_marginSays) sz) (wd_X9_saw cs a_t a_t_text a_t_opinions a_t_lines a_t_draftBook a_t_scribes a_t_turn a_t_bent a_t_need a_t_now a_t_isKept a_t_far a_t_marginOf a_t_marginSays v_t_trace v_t_typed v_t_needTold v_t_at v_t_start v_t_sort v_t_value v_t_fault v_t_target v_t_went v_t_ender v_t_had R0.2.1 g_t_opinions R0.2.2.1 R0.2.2.2) R0.1) 0 0 (va_A (wd_X9_saw cs a_t a_t_text a_t_opinions a_t_lines a_t_draftBook a_t_scribes a_t_turn a_t_bent a_t_need a_t_now a_t_isKept a_t_far a_t_marginOf a_t_marginSays v_t_trace v_t_typed v_t_needTold v_t_at v_t_start v_t_sort v_t_value v_t_fault v_t_target v_t_went v_t_ender v_t_had v_t_margins g_t_opinions g_t_marginOf g_t_marginSays) sz) := by
  refine Met.ofW (cc := cX9_saw) (maxL := 3) (ret := (some .int)) (by decide) rfl ?_
  intro p e s m args below meth c s₁ B hml hv
  obtain ⟨rfl, hsz, hP, hD0, hK, hN⟩ := hv
  have hx := B.exec
  have hb := B.bytes
  have hr := B.returns
  have hts := atoms_spec (ws := .code yX9_saw cX9_saw 3 (some .int) :: GW) B.pre
  have hg : ∀ w ∈ GW, w.before _ s = true := fun w h => hts w (List.mem_cons_of_mem _ h)
  have hown : s.vm.findClass RX9 = some m.cls := findClass_of_methodNamed B.named
  have hlocks := B.notSynchronized
  subst hsz
  have hD := hD0.self (sz := s.heap.size)
  generalize hAe : va_A (wd_X9_saw cs a_t a_t_text a_t_opinions a_t_lines a_t_draftBook a_t_scribes a_t_turn a_t_bent a_t_need a_t_now a_t_isKept a_t_far a_t_marginOf a_t_marginSays v_t_trace v_t_typed v_t_needTold v_t_at v_t_start v_t_sort v_t_value v_t_fault v_t_target v_t_went v_t_ender v_t_had v_t_margins g_t_opinions g_t_marginOf g_t_marginSays) s.heap.size = A at hD ⊢
  have hA : ∀ q : Nat, s.heap.size ≤ q → A q := fun q h => by rw [← hAe]; exact Or.inr h
  have hS : va_S A s.heap s.heap [] := va_S.rf
  have hl := lv_entry ([.ref a_t, .int p1, .int p2]) (n := 3) (Nat.le_of_ble_eq_true rfl)
  rw [lg_entry_eq]
  generalize (lg_sl ([.ref a_t, .int p1, .int p2]) ++ List.replicate (3 - (lg_sl ([.ref a_t, .int p1, .int p2])).length) Slot.unset).toArray = ls at hl ⊢
  have hl : lv_has ls 3 [(0, .ref a_t), (1, .int p1), (2, .int p2)] := hl
  obtain ⟨y, hB, hK0⟩ : ∃ y, f_X9_saw v_t_margins g_t_opinions g_t_marginOf g_t_marginSays p1 p2 = some y ∧ KEnd R0 y := ⟨R0, hB, rfl⟩
  have hKT := hK
  have hK := hK0
  obtain ⟨H, hHe⟩ : ∃ H, H = s.heap := ⟨_, rfl⟩
  obtain ⟨locs, hLe⟩ : ∃ L : List Loc, L = [] := ⟨_, rfl⟩
  rw [← hHe] at hP
  have hS : va_S A s.heap H locs := by rw [hHe, hLe]; exact hS
  show W p l e rm_X9_saw s m ([.ref a_t, .int p1, .int p2] : List Value).toArray below meth c s.heap [] 0 0 _ _
  suffices hgo : W p l e rm_X9_saw s m ([.ref a_t, .int p1, .int p2] : List Value).toArray below meth c H locs 0 0 (MQ below (QcI G A (wd_X9_saw cs a_t a_t_text a_t_opinions a_t_lines a_t_draftBook a_t_scribes a_t_turn a_t_bent a_t_need a_t_now a_t_isKept a_t_far a_t_marginOf a_t_marginSays v_t_trace v_t_typed v_t_needTold v_t_at v_t_start v_t_sort v_t_value v_t_fault v_t_target v_t_went v_t_ender v_t_had R0.2.1 g_t_opinions R0.2.2.1 R0.2.2.2) R0.1) ([.ref a_t, .int p1, .int p2] : List Value).toArray s 0 0 A) (F0 m 0 ls []) by rw [hHe, hLe] at hgo; exact hgo
  refine lv_aload_n hx hb dX9_saw_0 rfl (lv_at hl 0 rfl) ?_
  refine lv_iload_n hx hb dX9_saw_1 rfl (lv_at hl 1 rfl) ?_
  obtain ⟨q1, hq1, hB⟩ := bnd hB
  refine kr_V (WC := wd_X9_isOpinion cs a_t a_t_text a_t_opinions a_t_lines a_t_draftBook a_t_scribes a_t_turn a_t_bent a_t_need a_t_now a_t_isKept a_t_far a_t_marginOf a_t_marginSays v_t_trace v_t_typed v_t_needTold v_t_at v_t_start v_t_sort v_t_value v_t_fault v_t_target v_t_went v_t_ender v_t_had v_t_margins g_t_opinions) (As := [.int p1]) (rest := []) (r0 := q1) ⟨hx, hb, hml, hown, hg⟩ (k_X9_isOpinion l G cs a_t a_t_text a_t_opinions a_t_lines a_t_draftBook a_t_scribes a_t_turn a_t_bent a_t_need a_t_now a_t_isKept a_t_far a_t_marginOf a_t_marginSays v_t_trace v_t_typed v_t_needTold v_t_at v_t_start v_t_sort v_t_value v_t_fault v_t_target v_t_went v_t_ender v_t_had v_t_margins g_t_opinions p1 q1 hq1) gM_X9_142 mI_X9_isOpinion (rmk rfl) hP hKT hN 0 rfl rfl [0, 1] rfl rfl hl.1 rfl (Nat.le_of_ble_eq_true rfl) dX9_saw_2 ?_
  refine lv_if_eq (tgt := 16) hx hb dX9_saw_5 (by decide) (fun c_2 => ?_) (fun c_2 => ?_)
  · have hB := ifP c_2 hB
    refine lv_iconst (v := -1) hx hb dX9_saw_16 (by decide) ?_
    have hK := leafK hB hK
    have hK : ((-1 : Int32), v_t_margins, g_t_marginOf, g_t_marginSays) = R0 := hK
    subst hK
    exact W.iret (v := (-1 : Int32)) hx hb hr (fun t ht hW => ⟨⟨_, (), rfl, rfl, by rw [ht]; exact hP, hD⟩, hS.F ht⟩) hS.2.2 dX9_saw_17
  · have hB := ifN c_2 hB
    refine lv_aload_n hx hb dX9_saw_8 rfl (lv_at hl 0 rfl) ?_
    refine lv_iload_n hx hb dX9_saw_9 rfl (lv_at hl 2 rfl) ?_
    obtain ⟨q3, hq3, hB⟩ := bnd hB
    refine kr_V (WC := wd_X9_isOpinion cs a_t a_t_text a_t_opinions a_t_lines a_t_draftBook a_t_scribes a_t_turn a_t_bent a_t_need a_t_now a_t_isKept a_t_far a_t_marginOf a_t_marginSays v_t_trace v_t_typed v_t_needTold v_t_at v_t_start v_t_sort v_t_value v_t_fault v_t_target v_t_went v_t_ender v_t_had v_t_margins g_t_opinions) (As := [.int p2]) (rest := []) (r0 := q3) ⟨hx, hb, hml, hown, hg⟩ (k_X9_isOpinion l G cs a_t a_t_text a_t_opinions a_t_lines a_t_draftBook a_t_scribes a_t_turn a_t_bent a_t_need a_t_now a_t_isKept a_t_far a_t_marginOf a_t_marginSays v_t_trace v_t_typed v_t_needTold v_t_at v_t_start v_t_sort v_t_value v_t_fault v_t_target v_t_went v_t_ender v_t_had v_t_margins g_t_opinions p2 q3 hq3) gM_X9_142 mI_X9_isOpinion (rmk rfl) hP hKT hN 0 rfl rfl [0, 1] rfl rfl hl.1 rfl (Nat.le_of_ble_eq_true rfl) dX9_saw_10 ?_
    refine lv_if_ne (tgt := 18) hx hb dX9_saw_13 (by decide) (fun c_4 => ?_) (fun c_4 => ?_)
    · have hB := ifN c_4 hB
      refine lv_aload_n hx hb dX9_saw_18 rfl (lv_at hl 0 rfl) ?_
      refine va_get (D := G) (ci := 9) (v := .int v_t_margins) (C := RX9) (T := TX9) (N := 26) hx hb hg inX9 hown hKT hP 0 rfl rfl 25 (by decide) (hg _ gF_X9_102) (fun _ h9 => h9) rfl dX9_saw_19 ?_
      refine lv_bipush (v := 6) hx hb dX9_saw_22 (by decide) ?_
      refine lv_icmp_ne (tgt := 30) hx hb dX9_saw_24 (by decide) (fun c_5 => ?_) (fun c_5 => ?_)
      · have hB := ifN c_5 hB
        refine lv_aload_n hx hb dX9_saw_30 rfl (lv_at hl 0 rfl) ?_
        refine va_get (D := G) (ci := 9) (v := .ref a_t_marginOf) (C := RX9) (T := TX9) (N := 26) hx hb hg inX9 hown hKT hP 0 rfl rfl 23 (by decide) (hg _ gF_X9_45) (fun _ h9 => h9) rfl dX9_saw_31 ?_
        refine lv_aload_n hx hb dX9_saw_34 rfl (lv_at hl 0 rfl) ?_
        refine va_get (D := G) (ci := 9) (v := .int v_t_margins) (C := RX9) (T := TX9) (N := 26) hx hb hg inX9 hown hKT hP 0 rfl rfl 25 (by decide) (hg _ gF_X9_102) (fun _ h9 => h9) rfl dX9_saw_35 ?_
        refine lv_iload_n hx hb dX9_saw_38 rfl (lv_at hl 1 rfl) ?_
        obtain ⟨h_6, hB⟩ := ifS hB
        refine va_iast hx hb hKT hP hD hS 2 0 rfl rfl h_6 dX9_saw_39 (fun H locs hP hD hS => ?_)
        have hP : va_P G vwCl (wd_X9_saw cs a_t a_t_text a_t_opinions a_t_lines a_t_draftBook a_t_scribes a_t_turn a_t_bent a_t_need a_t_now a_t_isKept a_t_far a_t_marginOf a_t_marginSays v_t_trace v_t_typed v_t_needTold v_t_at v_t_start v_t_sort v_t_value v_t_fault v_t_target v_t_went v_t_ender v_t_had v_t_margins g_t_opinions (upd g_t_marginOf v_t_margins.toNatClampNeg p1) g_t_marginSays) H := hP
        have hD : va_D A (wd_X9_saw cs a_t a_t_text a_t_opinions a_t_lines a_t_draftBook a_t_scribes a_t_turn a_t_bent a_t_need a_t_now a_t_isKept a_t_far a_t_marginOf a_t_marginSays v_t_trace v_t_typed v_t_needTold v_t_at v_t_start v_t_sort v_t_value v_t_fault v_t_target v_t_went v_t_ender v_t_had v_t_margins g_t_opinions (upd g_t_marginOf v_t_margins.toNatClampNeg p1) g_t_marginSays) := hD
        refine lv_aload_n hx hb dX9_saw_40 rfl (lv_at hl 0 rfl) ?_
        refine va_get (D := G) (ci := 9) (v := .ref a_t_marginSays) (C := RX9) (T := TX9) (N := 26) hx hb hg inX9 hown hKT hP 0 rfl rfl 24 (by decide) (hg _ gF_X9_48) (fun _ h9 => h9) rfl dX9_saw_41 ?_
        refine lv_aload_n hx hb dX9_saw_44 rfl (lv_at hl 0 rfl) ?_
        refine va_get (D := G) (ci := 9) (v := .int v_t_margins) (C := RX9) (T := TX9) (N := 26) hx hb hg inX9 hown hKT hP 0 rfl rfl 25 (by decide) (hg _ gF_X9_102) (fun _ h9 => h9) rfl dX9_saw_45 ?_
        refine lv_iload_n hx hb dX9_saw_48 rfl (lv_at hl 2 rfl) ?_
        obtain ⟨h_7, hB⟩ := ifS hB
        refine va_iast hx hb hKT hP hD hS 3 0 rfl rfl h_7 dX9_saw_49 (fun H locs hP hD hS => ?_)
        have hP : va_P G vwCl (wd_X9_saw cs a_t a_t_text a_t_opinions a_t_lines a_t_draftBook a_t_scribes a_t_turn a_t_bent a_t_need a_t_now a_t_isKept a_t_far a_t_marginOf a_t_marginSays v_t_trace v_t_typed v_t_needTold v_t_at v_t_start v_t_sort v_t_value v_t_fault v_t_target v_t_went v_t_ender v_t_had v_t_margins g_t_opinions (upd g_t_marginOf v_t_margins.toNatClampNeg p1) (upd g_t_marginSays v_t_margins.toNatClampNeg p2)) H := hP
        have hD : va_D A (wd_X9_saw cs a_t a_t_text a_t_opinions a_t_lines a_t_draftBook a_t_scribes a_t_turn a_t_bent a_t_need a_t_now a_t_isKept a_t_far a_t_marginOf a_t_marginSays v_t_trace v_t_typed v_t_needTold v_t_at v_t_start v_t_sort v_t_value v_t_fault v_t_target v_t_went v_t_ender v_t_had v_t_margins g_t_opinions (upd g_t_marginOf v_t_margins.toNatClampNeg p1) (upd g_t_marginSays v_t_margins.toNatClampNeg p2)) := hD
        refine lv_aload_n hx hb dX9_saw_50 rfl (lv_at hl 0 rfl) ?_
        refine lv_dup hx hb dX9_saw_51 rfl ?_
        refine va_get (D := G) (ci := 9) (v := .int v_t_margins) (C := RX9) (T := TX9) (N := 26) hx hb hg inX9 hown hKT hP 0 rfl rfl 25 (by decide) (hg _ gF_X9_102) (fun _ h9 => h9) rfl dX9_saw_52 ?_
        refine lv_iconst (v := 1) hx hb dX9_saw_55 (by decide) ?_
        refine lv_iadd hx hb dX9_saw_56 ?_
        refine va_put (D := G) (ci := 9) (v := .int (v_t_margins + (1 : Int32))) (ty := .int) (C := RX9) (T := TX9) (N := 26) hx hb hg inX9 tyX9 tyX9_ok nmX9 hown hKT hP hD hS 0 rfl rfl 25 (by decide) (hg _ gF_X9_102) (fun _ h9 => h9) rfl (by decide +kernel) rfl rfl (Nat.le_of_ble_eq_true rfl) dX9_saw_57 (fun H locs hP hD hS => ?_)
        have hP : va_P G vwCl (wd_X9_saw cs a_t a_t_text a_t_opinions a_t_lines a_t_draftBook a_t_scribes a_t_turn a_t_bent a_t_need a_t_now a_t_isKept a_t_far a_t_marginOf a_t_marginSays v_t_trace v_t_typed v_t_needTold v_t_at v_t_start v_t_sort v_t_value v_t_fault v_t_target v_t_went v_t_ender v_t_had (v_t_margins + (1 : Int32)) g_t_opinions (upd g_t_marginOf v_t_margins.toNatClampNeg p1) (upd g_t_marginSays v_t_margins.toNatClampNeg p2)) H := hP
        have hD : va_D A (wd_X9_saw cs a_t a_t_text a_t_opinions a_t_lines a_t_draftBook a_t_scribes a_t_turn a_t_bent a_t_need a_t_now a_t_isKept a_t_far a_t_marginOf a_t_marginSays v_t_trace v_t_typed v_t_needTold v_t_at v_t_start v_t_sort v_t_value v_t_fault v_t_target v_t_went v_t_ender v_t_had (v_t_margins + (1 : Int32)) g_t_opinions (upd g_t_marginOf v_t_margins.toNatClampNeg p1) (upd g_t_marginSays v_t_margins.toNatClampNeg p2)) := hD
        refine lv_aload_n hx hb dX9_saw_60 rfl (lv_at hl 0 rfl) ?_
        refine va_get (D := G) (ci := 9) (v := .int (v_t_margins + (1 : Int32))) (C := RX9) (T := TX9) (N := 26) hx hb hg inX9 hown hKT hP 0 rfl rfl 25 (by decide) (hg _ gF_X9_102) (fun _ h9 => h9) rfl dX9_saw_61 ?_
        have hK := leafK hB hK
        have hK : (v_t_margins + (1 : Int32), v_t_margins + (1 : Int32), upd g_t_marginOf v_t_margins.toNatClampNeg p1, upd g_t_marginSays v_t_margins.toNatClampNeg p2) = R0 := hK
        subst hK
        exact W.iret (v := v_t_margins + (1 : Int32)) hx hb hr (fun t ht hW => ⟨⟨_, (), rfl, rfl, by rw [ht]; exact hP, hD⟩, hS.F ht⟩) hS.2.2 dX9_saw_64
      · have hB := ifP c_5 hB
        refine lv_bipush (v := -3) hx hb dX9_saw_27 (by decide) ?_
        have hK := leafK hB hK
        have hK : ((-3 : Int32), v_t_margins, g_t_marginOf, g_t_marginSays) = R0 := hK
        subst hK
        exact W.iret (v := (-3 : Int32)) hx hb hr (fun t ht hW => ⟨⟨_, (), rfl, rfl, by rw [ht]; exact hP, hD⟩, hS.F ht⟩) hS.2.2 dX9_saw_29
    · have hB := ifP c_4 hB
      refine lv_iconst (v := -1) hx hb dX9_saw_16 (by decide) ?_
      have hK := leafK hB hK
      have hK : ((-1 : Int32), v_t_margins, g_t_marginOf, g_t_marginSays) = R0 := hK
      subst hK
      exact W.iret (v := (-1 : Int32)) hx hb hr (fun t ht hW => ⟨⟨_, (), rfl, rfl, by rw [ht]; exact hP, hD⟩, hS.F ht⟩) hS.2.2 dX9_saw_17
