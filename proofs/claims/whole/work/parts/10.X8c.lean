def wd_X8_trace (cs : Nat → ClassId) (a_t a_t_house a_t_draft a_t_reader a_t_laws a_t_standing a_t_imageZero a_t_imageOne a_t_rounds a_t_ways a_t_margins a_t_marks : Nat) (v_t_keptZero : Int32) (v_t_keptOne : Int32) (v_t_target : Int32) (v_t_marks_unlike : Int32) (v_t_marks_turn : Int32) (v_t_marks_bent : Int32) (v_t_marks_times : Int32) (v_t_marks_copies : Int32) (v_t_marks_traced : Int64) : va_W := [(a_t, .inr (8, [.ref a_t_house, .ref a_t_draft, .ref a_t_reader, .ref a_t_laws, .ref a_t_standing, .ref a_t_imageZero, .ref a_t_imageOne, .int v_t_keptZero, .int v_t_keptOne, .int v_t_target, .ref a_t_rounds, .ref a_t_ways, .ref a_t_margins, .ref a_t_marks])), (a_t_marks, .inr (3, [.int v_t_marks_unlike, .int v_t_marks_turn, .int v_t_marks_bent, .int v_t_marks_times, .int v_t_marks_copies, .long v_t_marks_traced]))]
def rm_X8_trace : Room := { frames := 0, cells := 0, slots := 0, locals := 0 }
theorem mI_X8_trace : MI yX8_trace RX8 cX8_trace 1 (some .long) 0 := ⟨gI_X8_trace, gE_X8_trace, gN_X8, gC_X8_trace, by decide +kernel⟩
set_option maxHeartbeats 4000000 in
set_option maxRecDepth 100000 in
theorem k_X8_trace (l : Launch) (G : va_G) (cs : Nat → ClassId) (a_t a_t_house a_t_draft a_t_reader a_t_laws a_t_standing a_t_imageZero a_t_imageOne a_t_rounds a_t_ways a_t_margins a_t_marks : Nat) (v_t_keptZero : Int32) (v_t_keptOne : Int32) (v_t_target : Int32) (v_t_marks_unlike : Int32) (v_t_marks_turn : Int32) (v_t_marks_bent : Int32) (v_t_marks_times : Int32) (v_t_marks_copies : Int32) (v_t_marks_traced : Int64) (R0 : Int64) (hB : f_X8_trace v_t_marks_traced = some R0) : Met l yX8_trace (.code yX8_trace cX8_trace 1 (some .long) :: GW) rm_X8_trace (PcR G cs [.ref a_t] (wd_X8_trace cs a_t a_t_house a_t_draft a_t_reader a_t_laws a_t_standing a_t_imageZero a_t_imageOne a_t_rounds a_t_ways a_t_margins a_t_marks v_t_keptZero v_t_keptOne v_t_target v_t_marks_unlike v_t_marks_turn v_t_marks_bent v_t_marks_times v_t_marks_copies v_t_marks_traced)) (vp_Sl (fun r => r = R0)) 0 0 (fun _ => False) := by
  refine Met.ofW (cc := cX8_trace) (maxL := 1) (ret := (some .long)) (by decide) rfl ?_
  intro p e s m args below meth c s₁ B hml hv
  obtain ⟨rfl, hP, hK, hN⟩ := hv
  have hx := B.exec
  have hb := B.bytes
  have hr := B.returns
  have hts := atoms_spec (ws := .code yX8_trace cX8_trace 1 (some .long) :: GW) B.pre
  have hg : ∀ w ∈ GW, w.before _ s = true := fun w h => hts w (List.mem_cons_of_mem _ h)
  have hown : s.vm.findClass RX8 = some m.cls := findClass_of_methodNamed B.named
  have hlocks := B.notSynchronized
  have hl := lv_entry ([.ref a_t]) (n := 1) (Nat.le_of_ble_eq_true rfl)
  rw [lg_entry_eq]
  generalize (lg_sl ([.ref a_t]) ++ List.replicate (1 - (lg_sl ([.ref a_t])).length) Slot.unset).toArray = ls at hl ⊢
  have hl : lv_has ls 1 [(0, .ref a_t)] := hl
  obtain ⟨y, hB, hK0⟩ : ∃ y, f_X8_trace v_t_marks_traced = some y ∧ KEnd R0 y := ⟨R0, hB, rfl⟩
  have hKT := hK
  have hK := hK0
  show W p l e rm_X8_trace s m ([.ref a_t] : List Value).toArray below meth c s.heap [] 0 0 (MQ below (vp_Sl (fun r => r = R0)) ([.ref a_t] : List Value).toArray s 0 0 (fun _ => False)) (F0 m 0 ls [])
  refine lv_aload_n hx hb dX8_trace_0 rfl (lv_at hl 0 rfl) ?_
  refine va_get (D := G) (ci := 8) (v := .ref a_t_marks) (C := RX8) (T := TX8) (N := 14) hx hb hg inX8 hown hKT hP 0 rfl rfl 13 (by decide) (hg _ gF_X8_72) (fun _ h9 => h9) rfl dX8_trace_1 ?_
  refine va_getN (D := G) (ci := 3) (v := .long v_t_marks_traced) (C := RX3) (T := TX3) (N := 6) hx hb hg inX3 hown hKT hP 1 rfl rfl 5 (by decide) (va_Nw.use rfl (hN _ nF_X8_310_l rfl)) (fun _ h9 => h9) rfl dX8_trace_4 ?_
  have hK := leafK hB hK
  have hK : v_t_marks_traced = R0 := hK
  subst hK
  exact W.lret (v := v_t_marks_traced) hx hb hr (fun t ht hW => ⟨_, rfl, rfl, ht⟩) (fun _ h => by cases h) dX8_trace_7
