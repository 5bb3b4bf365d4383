theorem inX3 : ∀ w ∈ u_ws RX3 TX3 6, w ∈ GW := by
  intro w h
  obtain ⟨k, hk, rfl⟩ := List.mem_map.mp h
  have hk := List.mem_range.mp hk
  rcases (show k = 0 ∨ k = 1 ∨ k = 2 ∨ k = 3 ∨ k = 4 ∨ k = 5 by omega) with rfl | rfl | rfl | rfl | rfl | rfl
  · exact gY_X3_unlike
  · exact gY_X3_turn
  · exact gY_X3_bent
  · exact gY_X3_times
  · exact gY_X3_copies
  · exact gY_X3_traced
def wd_X3_isKind (cs : Nat → ClassId) : va_W := []
def rm_X3_isKind : Room := { frames := 0, cells := 0, slots := 0, locals := 0 }
theorem mS_X3_isKind : MS yX3_isKind cX3_isKind 1 (some .boolean) 1 := ⟨gS_X3_isKind, gN_X3, gC_X3_isKind, by decide +kernel⟩
set_option maxHeartbeats 4000000 in
set_option maxRecDepth 100000 in
theorem k_X3_isKind (l : Launch) (G : va_G) (cs : Nat → ClassId) (p0 : Int32) (R0 : Int32) (hB : f_X3_isKind p0 = some R0) : Met l yX3_isKind (.code yX3_isKind cX3_isKind 1 (some .boolean) :: GW) rm_X3_isKind (PcR G cs [.int p0] (wd_X3_isKind cs )) (vp_Si (fun r => r = R0)) 0 0 (fun _ => False) := by
  refine Met.ofW (cc := cX3_isKind) (maxL := 1) (ret := (some .boolean)) (by decide) rfl ?_
  intro p e s m args below meth c s₁ B hml hv
  obtain ⟨rfl, hP, hK, hN⟩ := hv
  have hx := B.exec
  have hb := B.bytes
  have hr := B.returns
  have hts := atoms_spec (ws := .code yX3_isKind cX3_isKind 1 (some .boolean) :: GW) B.pre
  have hg : ∀ w ∈ GW, w.before _ s = true := fun w h => hts w (List.mem_cons_of_mem _ h)
  have hown : s.vm.findClass RX3 = some m.cls := findClass_of_methodNamed B.named
  have hlocks := B.notSynchronized
  have hl := lv_entry ([.int p0]) (n := 1) (Nat.le_of_ble_eq_true rfl)
  rw [lg_entry_eq]
  generalize (lg_sl ([.int p0]) ++ List.replicate (1 - (lg_sl ([.int p0])).length) Slot.unset).toArray = ls at hl ⊢
  have hl : lv_has ls 1 [(0, .int p0)] := hl
  obtain ⟨y, hB, hK0⟩ : ∃ y, f_X3_isKind p0 = some y ∧ KEnd R0 y := ⟨R0, hB, rfl⟩
  have hKT := hK
  have hK := hK0
  show W p l e rm_X3_isKind s m ([.int p0] : List Value).toArray below meth c s.heap [] 0 0 (MQ below (vp_Si (fun r => r = R0)) ([.int p0] : List Value).toArray s 0 0 (fun _ => False)) (F0 m 0 ls [])
  refine lv_iload_n hx hb dX3_isKind_0 rfl (lv_at hl 0 rfl) ?_
  refine lv_if_lt (tgt := 14) hx hb dX3_isKind_1 (by decide) (fun c_1 => ?_) (fun c_1 => ?_)
  · have hB := ifP c_1 hB
    refine lv_iconst (v := 0) hx hb dX3_isKind_14 (by decide) ?_
    have hK := leafK hB hK
    have hK : (0 : Int32) = R0 := hK
    subst hK
    exact W.zret (v := (0 : Int32)) (ty := .boolean) hx hb hr rfl (fun t ht hW => ⟨_, rfl, rfl, ht⟩) (fun _ h => by cases h) dX3_isKind_15
  · have hB := ifN c_1 hB
    refine lv_iload_n hx hb dX3_isKind_4 rfl (lv_at hl 0 rfl) ?_
    refine lv_bipush (v := 6) hx hb dX3_isKind_5 (by decide) ?_
    refine lv_icmp_ge (tgt := 14) hx hb dX3_isKind_7 (by decide) (fun c_2 => ?_) (fun c_2 => ?_)
    · have hB := ifP c_2 hB
      refine lv_iconst (v := 0) hx hb dX3_isKind_14 (by decide) ?_
      have hK := leafK hB hK
      have hK : (0 : Int32) = R0 := hK
      subst hK
      exact W.zret (v := (0 : Int32)) (ty := .boolean) hx hb hr rfl (fun t ht hW => ⟨_, rfl, rfl, ht⟩) (fun _ h => by cases h) dX3_isKind_15
    · have hB := ifN c_2 hB
      refine lv_iconst (v := 1) hx hb dX3_isKind_10 (by decide) ?_
      refine lv_goto (tgt := 15) hx hb dX3_isKind_11 (by decide) ?_
      have hK := leafK hB hK
      have hK : (1 : Int32) = R0 := hK
      subst hK
      exact W.zret (v := (1 : Int32)) (ty := .boolean) hx hb hr rfl (fun t ht hW => ⟨_, rfl, rfl, ht⟩) (fun _ h => by cases h) dX3_isKind_15
