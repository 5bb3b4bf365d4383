def rm_X0_init : Room := { frames := 1, cells := 2, slots := 12, locals := 24 }
theorem mN_X0_init : MN yX0_init cX0_init 1 0 := ⟨gI_X0_init, gN_X0, gC_X0_init, rfl, by decide +kernel⟩
/-- the cells behind X0_init() -/
def wn_X0_init (cs : Nat → ClassId) (h0 : Nat) (u : Nat × Nat) : va_W := [(h0, .inr (0, [.int 5, .int 0, .int 1, .int 0, .int 0, .int 1, .ref u.1, .ref u.2])), (u.1, .inl (cs 0, 6, .inl (fun _ => 0))), (u.2, .inl (cs 0, 6, .inl (fun _ => 0)))]
set_option maxHeartbeats 4000000 in
set_option maxRecDepth 100000 in
theorem k_X0_init (l : Launch) (G : va_G) (cs : Nat → ClassId) (h0 : Nat) (sz : Nat) : Met l yX0_init (.code yX0_init cX0_init 1 none :: GW) rm_X0_init (PcW G cs [.ref h0] [(h0, .inr (0, [.int 0, .int 0, .int 0, .int 0, .int 0, .int 0, .null, .null]))] sz) (QcN (S := Nat × Nat) G (va_A [(h0, .inr (0, [.int 0, .int 0, .int 0, .int 0, .int 0, .int 0, .null, .null]))] sz) (wn_X0_init cs h0)) 2 12 (va_A [(h0, .inr (0, [.int 0, .int 0, .int 0, .int 0, .int 0, .int 0, .null, .null]))] sz) := by
  refine Met.ofW (cc := cX0_init) (maxL := 1) (ret := none) (by decide) rfl ?_
  intro p e s m args below meth c s₁ B hml hv
  obtain ⟨rfl, hsz, hP, hD0, hKT, hN⟩ := hv
  have hx := B.exec
  have hb := B.bytes
  have hr := B.returns
  have hts := atoms_spec (ws := .code yX0_init cX0_init 1 none :: GW) B.pre
  have hg : ∀ w ∈ GW, w.before _ s = true := fun w h => hts w (List.mem_cons_of_mem _ h)
  have hown : s.vm.findClass RX0 = some m.cls := findClass_of_methodNamed B.named
  have hlocks := B.notSynchronized
  have hin : meth.name = "<init>" := (name_of_methodNamed B.named B.method).1
  subst hsz
  have hD := hD0.self (sz := s.heap.size)
  generalize hAe : va_A [(h0, .inr (0, [.int 0, .int 0, .int 0, .int 0, .int 0, .int 0, .null, .null]))] s.heap.size = A at hD ⊢
  have hA : ∀ q : Nat, s.heap.size ≤ q → A q := fun q h => by rw [← hAe]; exact Or.inr h
  have hS : va_S A s.heap s.heap [] := va_S.rf
  have hl := lv_entry ([.ref h0]) (n := 1) (Nat.le_of_ble_eq_true rfl)
  rw [lg_entry_eq]
  generalize (lg_sl ([.ref h0]) ++ List.replicate (1 - (lg_sl ([.ref h0])).length) Slot.unset).toArray = ls at hl ⊢
  have hl : lv_has ls 1 [(0, .ref h0)] := hl
  obtain ⟨H, hHe⟩ : ∃ H, H = s.heap := ⟨_, rfl⟩
  obtain ⟨locs, hLe⟩ : ∃ L : List Loc, L = [] := ⟨_, rfl⟩
  rw [← hHe] at hP
  have hS : va_S A s.heap H locs := by rw [hHe, hLe]; exact hS
  suffices hgo : W p l e rm_X0_init s m ([.ref h0] : List Value).toArray below meth c H locs 0 0 (MQ below (QcN (S := Nat × Nat) G A (wn_X0_init cs h0)) ([.ref h0] : List Value).toArray s 2 12 A) (F0 m 0 ls []) by rw [hHe, hLe] at hgo; exact hgo
  refine lv_aload_n hx hb dX0_init_0 rfl (lv_at hl 0 rfl) ?_
  refine W.objInit hx hb hown (hg _ gM_X0_3) (hg _ gI_objectInit) (hg _ gC_objectInit) rfl (by rw [hml]; exact hl.1) rfl dX0_init_1 (Nat.le_of_ble_eq_true rfl) (Nat.le_of_ble_eq_true rfl) ?_
  refine W.eq (g2 := F0 m 4 ls []) rfl ?_
  refine lv_aload_n hx hb dX0_init_4 rfl (lv_at hl 0 rfl) ?_
  refine lv_iconst (v := 5) hx hb dX0_init_5 (by decide) ?_
  refine va_put (D := G) (ci := 0) (v := .int 5) (ty := .int) (C := RX0) (T := TX0) (N := 8) hx hb hg inX0 tyX0 tyX0_ok nmX0 hown hKT hP hD hS 0 rfl rfl 0 (by decide) (hg _ gF_X0_9) (fun _ h9 => h9) rfl (by decide +kernel) rfl rfl (Nat.le_of_ble_eq_true rfl) dX0_init_6 (fun H locs hP hD hS => ?_)
  have hP : va_P G vwCl [(h0, .inr (0, [.int 5, .int 0, .int 0, .int 0, .int 0, .int 0, .null, .null]))] H := hP
  have hD : va_D A [(h0, .inr (0, [.int 5, .int 0, .int 0, .int 0, .int 0, .int 0, .null, .null]))] := hD
  refine lv_aload_n hx hb dX0_init_9 rfl (lv_at hl 0 rfl) ?_
  refine lv_iconst (v := 1) hx hb dX0_init_10 (by decide) ?_
  refine va_put (D := G) (ci := 0) (v := .int 1) (ty := .int) (C := RX0) (T := TX0) (N := 8) hx hb hg inX0 tyX0 tyX0_ok nmX0 hown hKT hP hD hS 0 rfl rfl 2 (by decide) (hg _ gF_X0_15) (fun _ h9 => h9) rfl (by decide +kernel) rfl rfl (Nat.le_of_ble_eq_true rfl) dX0_init_11 (fun H locs hP hD hS => ?_)
  have hP : va_P G vwCl [(h0, .inr (0, [.int 5, .int 0, .int 1, .int 0, .int 0, .int 0, .null, .null]))] H := hP
  have hD : va_D A [(h0, .inr (0, [.int 5, .int 0, .int 1, .int 0, .int 0, .int 0, .null, .null]))] := hD
  refine lv_aload_n hx hb dX0_init_14 rfl (lv_at hl 0 rfl) ?_
  refine lv_iconst (v := 1) hx hb dX0_init_15 (by decide) ?_
  refine va_put (D := G) (ci := 0) (v := .int 1) (ty := .int) (C := RX0) (T := TX0) (N := 8) hx hb hg inX0 tyX0 tyX0_ok nmX0 hown hKT hP hD hS 0 rfl rfl 5 (by decide) (hg _ gF_X0_18) (fun _ h9 => h9) rfl (by decide +kernel) rfl rfl (Nat.le_of_ble_eq_true rfl) dX0_init_16 (fun H locs hP hD hS => ?_)
  have hP : va_P G vwCl [(h0, .inr (0, [.int 5, .int 0, .int 1, .int 0, .int 0, .int 1, .null, .null]))] H := hP
  have hD : va_D A [(h0, .inr (0, [.int 5, .int 0, .int 1, .int 0, .int 0, .int 1, .null, .null]))] := hD
  refine lv_aload_n hx hb dX0_init_19 rfl (lv_at hl 0 rfl) ?_
  refine lv_bipush (v := 6) hx hb dX0_init_20 (by decide) ?_
  refine va_newa (atype := .int) (ty := .int) (N' := 6) (a0 := (6, .inl (fun _ => 0))) hx hb (hg _ gA_int) rfl hKT hP hD hS hA (fun _ => rfl) (by decide) (by decide) (by decide) (Nat.le_of_ble_eq_true rfl) (Nat.le_of_ble_eq_true rfl) dX0_init_22 (fun q22 cA H hK2 hP hD hS => ?_)
  obtain rfl := cA_int hKT hK2
  have hP : va_P G vwCl [(h0, .inr (0, [.int 5, .int 0, .int 1, .int 0, .int 0, .int 1, .null, .null])), (q22, .inl (cs 0, 6, .inl (fun _ => 0)))] H := hP
  have hD : va_D A [(h0, .inr (0, [.int 5, .int 0, .int 1, .int 0, .int 0, .int 1, .null, .null])), (q22, .inl (cs 0, 6, .inl (fun _ => 0)))] := hD
  refine W.widen (k := 1) (n := 6) (Nat.le_of_ble_eq_true rfl) (Nat.le_of_ble_eq_true rfl) ?_
  refine va_putF (D := G) (ci := 0) (v := .ref q22) (ty := .array .int) (C := RX0) (T := TX0) (N := 8) hx hb hg inX0 tyX0 tyX0_ok nmX0 hown hKT hP hD hS 0 rfl rfl 6 (by decide) (hg _ gF_X0_21) (fun _ h9 => h9) rfl hin rfl (by decide +kernel) rfl rfl (Nat.le_of_ble_eq_true rfl) dX0_init_24 (fun H locs hP hD hS => ?_)
  have hP : va_P G vwCl [(h0, .inr (0, [.int 5, .int 0, .int 1, .int 0, .int 0, .int 1, .ref q22, .null])), (q22, .inl (cs 0, 6, .inl (fun _ => 0)))] H := hP
  have hD : va_D A [(h0, .inr (0, [.int 5, .int 0, .int 1, .int 0, .int 0, .int 1, .ref q22, .null])), (q22, .inl (cs 0, 6, .inl (fun _ => 0)))] := hD
  refine lv_aload_n hx hb dX0_init_27 rfl (lv_at hl 0 rfl) ?_
  refine lv_bipush (v := 6) hx hb dX0_init_28 (by decide) ?_
  refine va_newa (atype := .int) (ty := .int) (N' := 6) (a0 := (6, .inl (fun _ => 0))) hx hb (hg _ gA_int) rfl hKT hP hD hS hA (fun _ => rfl) (by decide) (by decide) (by decide) (Nat.le_of_ble_eq_true rfl) (Nat.le_of_ble_eq_true rfl) dX0_init_30 (fun q30 cA H hK2 hP hD hS => ?_)
  obtain rfl := cA_int hKT hK2
  have hP : va_P G vwCl [(h0, .inr (0, [.int 5, .int 0, .int 1, .int 0, .int 0, .int 1, .ref q22, .null])), (q22, .inl (cs 0, 6, .inl (fun _ => 0))), (q30, .inl (cs 0, 6, .inl (fun _ => 0)))] H := hP
  have hD : va_D A [(h0, .inr (0, [.int 5, .int 0, .int 1, .int 0, .int 0, .int 1, .ref q22, .null])), (q22, .inl (cs 0, 6, .inl (fun _ => 0))), (q30, .inl (cs 0, 6, .inl (fun _ => 0)))] := hD
  refine W.widen (k := 2) (n := 12) (Nat.le_of_ble_eq_true rfl) (Nat.le_of_ble_eq_true rfl) ?_
  refine va_putF (D := G) (ci := 0) (v := .ref q30) (ty := .array .int) (C := RX0) (T := TX0) (N := 8) hx hb hg inX0 tyX0 tyX0_ok nmX0 hown hKT hP hD hS 0 rfl rfl 7 (by decide) (hg _ gF_X0_25) (fun _ h9 => h9) rfl hin rfl (by decide +kernel) rfl rfl (Nat.le_of_ble_eq_true rfl) dX0_init_32 (fun H locs hP hD hS => ?_)
  have hP : va_P G vwCl [(h0, .inr (0, [.int 5, .int 0, .int 1, .int 0, .int 0, .int 1, .ref q22, .ref q30])), (q22, .inl (cs 0, 6, .inl (fun _ => 0))), (q30, .inl (cs 0, 6, .inl (fun _ => 0)))] H := hP
  have hD : va_D A [(h0, .inr (0, [.int 5, .int 0, .int 1, .int 0, .int 0, .int 1, .ref q22, .ref q30])), (q22, .inl (cs 0, 6, .inl (fun _ => 0))), (q30, .inl (cs 0, 6, .inl (fun _ => 0)))] := hD
  exact W.vret hx hb hr (fun t ht hW => ⟨⟨(q22, q30), rfl, trivial, by rw [ht]; exact hP, hD⟩, hS.F ht⟩) hS.2.2 dX0_init_35
def rm_X1_init : Room := { frames := 1, cells := 1, slots := 3750, locals := 24 }
theorem mN_X1_init : MN yX1_init cX1_init 1 0 := ⟨gI_X1_init, gN_X1, gC_X1_init, rfl, by decide +kernel⟩
/-- the cells behind X1_init() -/
def wn_X1_init (cs : Nat → ClassId) (h0 : Nat) (u : Nat) : va_W := [(h0, .inr (1, [.ref u, .int 0, .int 1])), (u, .inl (cs 0, 3750, .inl (fun _ => 0)))]
set_option maxHeartbeats 4000000 in
set_option maxRecDepth 100000 in
theorem k_X1_init (l : Launch) (G : va_G) (cs : Nat → ClassId) (h0 : Nat) (sz : Nat) : Met l yX1_init (.code yX1_init cX1_init 1 none :: GW) rm_X1_init (PcW G cs [.ref h0] [(h0, .inr (1, [.null, .int 0, .int 0]))] sz) (QcN (S := Nat) G (va_A [(h0, .inr (1, [.null, .int 0, .int 0]))] sz) (wn_X1_init cs h0)) 1 3750 (va_A [(h0, .inr (1, [.null, .int 0, .int 0]))] sz) := by
  refine Met.ofW (cc := cX1_init) (maxL := 1) (ret := none) (by decide) rfl ?_
  intro p e s m args below meth c s₁ B hml hv
  obtain ⟨rfl, hsz, hP, hD0, hKT, hN⟩ := hv
  have hx := B.exec
  have hb := B.bytes
  have hr := B.returns
  have hts := atoms_spec (ws := .code yX1_init cX1_init 1 none :: GW) B.pre
  have hg : ∀ w ∈ GW, w.before _ s = true := fun w h => hts w (List.mem_cons_of_mem _ h)
  have hown : s.vm.findClass RX1 = some m.cls := findClass_of_methodNamed B.named
  have hlocks := B.notSynchronized
  have hin : meth.name = "<init>" := (name_of_methodNamed B.named B.method).1
  subst hsz
  have hD := hD0.self (sz := s.heap.size)
  generalize hAe : va_A [(h0, .inr (1, [.null, .int 0, .int 0]))] s.heap.size = A at hD ⊢
  have hA : ∀ q : Nat, s.heap.size ≤ q → A q := fun q h => by rw [← hAe]; exact Or.inr h
  have hS : va_S A s.heap s.heap [] := va_S.rf
  have hl := lv_entry ([.ref h0]) (n := 1) (Nat.le_of_ble_eq_true rfl)
  rw [lg_entry_eq]
  generalize (lg_sl ([.ref h0]) ++ List.replicate (1 - (lg_sl ([.ref h0])).length) Slot.unset).toArray = ls at hl ⊢
  have hl : lv_has ls 1 [(0, .ref h0)] := hl
  obtain ⟨H, hHe⟩ : ∃ H, H = s.heap := ⟨_, rfl⟩
  obtain ⟨locs, hLe⟩ : ∃ L : List Loc, L = [] := ⟨_, rfl⟩
  rw [← hHe] at hP
  have hS : va_S A s.heap H locs := by rw [hHe, hLe]; exact hS
  suffices hgo : W p l e rm_X1_init s m ([.ref h0] : List Value).toArray below meth c H locs 0 0 (MQ below (QcN (S := Nat) G A (wn_X1_init cs h0)) ([.ref h0] : List Value).toArray s 1 3750 A) (F0 m 0 ls []) by rw [hHe, hLe] at hgo; exact hgo
  refine lv_aload_n hx hb dX1_init_0 rfl (lv_at hl 0 rfl) ?_
  refine W.objInit hx hb hown (hg _ gM_X1_3) (hg _ gI_objectInit) (hg _ gC_objectInit) rfl (by rw [hml]; exact hl.1) rfl dX1_init_1 (Nat.le_of_ble_eq_true rfl) (Nat.le_of_ble_eq_true rfl) ?_
  refine W.eq (g2 := F0 m 4 ls []) rfl ?_
  refine lv_aload_n hx hb dX1_init_4 rfl (lv_at hl 0 rfl) ?_
  refine lv_sipush (v := 3750) hx hb dX1_init_5 (by decide) ?_
  refine va_newa (atype := .int) (ty := .int) (N' := 3750) (a0 := (3750, .inl (fun _ => 0))) hx hb (hg _ gA_int) rfl hKT hP hD hS hA (fun _ => rfl) (by decide) (by decide) (by decide) (Nat.le_of_ble_eq_true rfl) (Nat.le_of_ble_eq_true rfl) dX1_init_8 (fun q8 cA H hK2 hP hD hS => ?_)
  obtain rfl := cA_int hKT hK2
  have hP : va_P G vwCl [(h0, .inr (1, [.null, .int 0, .int 0])), (q8, .inl (cs 0, 3750, .inl (fun _ => 0)))] H := hP
  have hD : va_D A [(h0, .inr (1, [.null, .int 0, .int 0])), (q8, .inl (cs 0, 3750, .inl (fun _ => 0)))] := hD
  refine W.widen (k := 1) (n := 3750) (Nat.le_of_ble_eq_true rfl) (Nat.le_of_ble_eq_true rfl) ?_
  refine va_putF (D := G) (ci := 1) (v := .ref q8) (ty := .array .int) (C := RX1) (T := TX1) (N := 3) hx hb hg inX1 tyX1 tyX1_ok nmX1 hown hKT hP hD hS 0 rfl rfl 0 (by decide) (hg _ gF_X1_9) (fun _ h9 => h9) rfl hin rfl (by decide +kernel) rfl rfl (Nat.le_of_ble_eq_true rfl) dX1_init_10 (fun H locs hP hD hS => ?_)
  have hP : va_P G vwCl [(h0, .inr (1, [.ref q8, .int 0, .int 0])), (q8, .inl (cs 0, 3750, .inl (fun _ => 0)))] H := hP
  have hD : va_D A [(h0, .inr (1, [.ref q8, .int 0, .int 0])), (q8, .inl (cs 0, 3750, .inl (fun _ => 0)))] := hD
  refine lv_aload_n hx hb dX1_init_13 rfl (lv_at hl 0 rfl) ?_
  refine lv_iconst (v := 1) hx hb dX1_init_14 (by decide) ?_
  refine va_put (D := G) (ci := 1) (v := .int 1) (ty := .int) (C := RX1) (T := TX1) (N := 3) hx hb hg inX1 tyX1 tyX1_ok nmX1 hown hKT hP hD hS 0 rfl rfl 2 (by decide) (hg _ gF_X1_15) (fun _ h9 => h9) rfl (by decide +kernel) rfl rfl (Nat.le_of_ble_eq_true rfl) dX1_init_15 (fun H locs hP hD hS => ?_)
  have hP : va_P G vwCl [(h0, .inr (1, [.ref q8, .int 0, .int 1])), (q8, .inl (cs 0, 3750, .inl (fun _ => 0)))] H := hP
  have hD : va_D A [(h0, .inr (1, [.ref q8, .int 0, .int 1])), (q8, .inl (cs 0, 3750, .inl (fun _ => 0)))] := hD
  exact W.vret hx hb hr (fun t ht hW => ⟨⟨q8, rfl, trivial, by rw [ht]; exact hP, hD⟩, hS.F ht⟩) hS.2.2 dX1_init_18
def rm_X2_init : Room := { frames := 1, cells := 2, slots := 12, locals := 24 }
theorem mN_X2_init : MN yX2_init cX2_init 1 0 := ⟨gI_X2_init, gN_X2, gC_X2_init, rfl, by decide +kernel⟩
/-- the cells behind X2_init() -/
def wn_X2_init (cs : Nat → ClassId) (h0 : Nat) (u : Nat × Nat) : va_W := [(h0, .inr (2, [.ref u.1, .ref u.2, .int 0])), (u.1, .inl (cs 0, 6, .inl (fun _ => 0))), (u.2, .inl (cs 0, 6, .inl (fun _ => 0)))]
set_option maxHeartbeats 4000000 in
set_option maxRecDepth 100000 in
theorem k_X2_init (l : Launch) (G : va_G) (cs : Nat → ClassId) (h0 : Nat) (sz : Nat) : Met l yX2_init (.code yX2_init cX2_init 1 none :: GW) rm_X2_init (PcW G cs [.ref h0] [(h0, .inr (2, [.null, .null, .int 0]))] sz) (QcN (S := Nat × Nat) G (va_A [(h0, .inr (2, [.null, .null, .int 0]))] sz) (wn_X2_init cs h0)) 2 12 (va_A [(h0, .inr (2, [.null, .null, .int 0]))] sz) := by
  refine Met.ofW (cc := cX2_init) (maxL := 1) (ret := none) (by decide) rfl ?_
  intro p e s m args below meth c s₁ B hml hv
  obtain ⟨rfl, hsz, hP, hD0, hKT, hN⟩ := hv
  have hx := B.exec
  have hb := B.bytes
  have hr := B.returns
  have hts := atoms_spec (ws := .code yX2_init cX2_init 1 none :: GW) B.pre
  have hg : ∀ w ∈ GW, w.before _ s = true := fun w h => hts w (List.mem_cons_of_mem _ h)
  have hown : s.vm.findClass RX2 = some m.cls := findClass_of_methodNamed B.named
  have hlocks := B.notSynchronized
  have hin : meth.name = "<init>" := (name_of_methodNamed B.named B.method).1
  subst hsz
  have hD := hD0.self (sz := s.heap.size)
  generalize hAe : va_A [(h0, .inr (2, [.null, .null, .int 0]))] s.heap.size = A at hD ⊢
  have hA : ∀ q : Nat, s.heap.size ≤ q → A q := fun q h => by rw [← hAe]; exact Or.inr h
  have hS : va_S A s.heap s.heap [] := va_S.rf
  have hl := lv_entry ([.ref h0]) (n := 1) (Nat.le_of_ble_eq_true rfl)
  rw [lg_entry_eq]
  generalize (lg_sl ([.ref h0]) ++ List.replicate (1 - (lg_sl ([.ref h0])).length) Slot.unset).toArray = ls at hl ⊢
  have hl : lv_has ls 1 [(0, .ref h0)] := hl
  obtain ⟨H, hHe⟩ : ∃ H, H = s.heap := ⟨_, rfl⟩
  obtain ⟨locs, hLe⟩ : ∃ L : List Loc, L = [] := ⟨_, rfl⟩
  rw [← hHe] at hP
  have hS : va_S A s.heap H locs := by rw [hHe, hLe]; exact hS
  suffices hgo : W p l e rm_X2_init s m ([.ref h0] : List Value).toArray below meth c H locs 0 0 (MQ below (QcN (S := Nat × Nat) G A (wn_X2_init cs h0)) ([.ref h0] : List Value).toArray s 2 12 A) (F0 m 0 ls []) by rw [hHe, hLe] at hgo; exact hgo
  refine lv_aload_n hx hb dX2_init_0 rfl (lv_at hl 0 rfl) ?_
  refine W.objInit hx hb hown (hg _ gM_X2_3) (hg _ gI_objectInit) (hg _ gC_objectInit) rfl (by rw [hml]; exact hl.1) rfl dX2_init_1 (Nat.le_of_ble_eq_true rfl) (Nat.le_of_ble_eq_true rfl) ?_
  refine W.eq (g2 := F0 m 4 ls []) rfl ?_
  refine lv_aload_n hx hb dX2_init_4 rfl (lv_at hl 0 rfl) ?_
  refine lv_bipush (v := 6) hx hb dX2_init_5 (by decide) ?_
  refine va_newa (atype := .int) (ty := .int) (N' := 6) (a0 := (6, .inl (fun _ => 0))) hx hb (hg _ gA_int) rfl hKT hP hD hS hA (fun _ => rfl) (by decide) (by decide) (by decide) (Nat.le_of_ble_eq_true rfl) (Nat.le_of_ble_eq_true rfl) dX2_init_7 (fun q7 cA H hK2 hP hD hS => ?_)
  obtain rfl := cA_int hKT hK2
  have hP : va_P G vwCl [(h0, .inr (2, [.null, .null, .int 0])), (q7, .inl (cs 0, 6, .inl (fun _ => 0)))] H := hP
  have hD : va_D A [(h0, .inr (2, [.null, .null, .int 0])), (q7, .inl (cs 0, 6, .inl (fun _ => 0)))] := hD
  refine W.widen (k := 1) (n := 6) (Nat.le_of_ble_eq_true rfl) (Nat.le_of_ble_eq_true rfl) ?_
  refine va_putF (D := G) (ci := 2) (v := .ref q7) (ty := .array .int) (C := RX2) (T := TX2) (N := 3) hx hb hg inX2 tyX2 tyX2_ok nmX2 hown hKT hP hD hS 0 rfl rfl 0 (by decide) (hg _ gF_X2_11) (fun _ h9 => h9) rfl hin rfl (by decide +kernel) rfl rfl (Nat.le_of_ble_eq_true rfl) dX2_init_9 (fun H locs hP hD hS => ?_)
  have hP : va_P G vwCl [(h0, .inr (2, [.ref q7, .null, .int 0])), (q7, .inl (cs 0, 6, .inl (fun _ => 0)))] H := hP
  have hD : va_D A [(h0, .inr (2, [.ref q7, .null, .int 0])), (q7, .inl (cs 0, 6, .inl (fun _ => 0)))] := hD
  refine lv_aload_n hx hb dX2_init_12 rfl (lv_at hl 0 rfl) ?_
  refine lv_bipush (v := 6) hx hb dX2_init_13 (by decide) ?_
  refine va_newa (atype := .int) (ty := .int) (N' := 6) (a0 := (6, .inl (fun _ => 0))) hx hb (hg _ gA_int) rfl hKT hP hD hS hA (fun _ => rfl) (by decide) (by decide) (by decide) (Nat.le_of_ble_eq_true rfl) (Nat.le_of_ble_eq_true rfl) dX2_init_15 (fun q15 cA H hK2 hP hD hS => ?_)
  obtain rfl := cA_int hKT hK2
  have hP : va_P G vwCl [(h0, .inr (2, [.ref q7, .null, .int 0])), (q7, .inl (cs 0, 6, .inl (fun _ => 0))), (q15, .inl (cs 0, 6, .inl (fun _ => 0)))] H := hP
  have hD : va_D A [(h0, .inr (2, [.ref q7, .null, .int 0])), (q7, .inl (cs 0, 6, .inl (fun _ => 0))), (q15, .inl (cs 0, 6, .inl (fun _ => 0)))] := hD
  refine W.widen (k := 2) (n := 12) (Nat.le_of_ble_eq_true rfl) (Nat.le_of_ble_eq_true rfl) ?_
  refine va_putF (D := G) (ci := 2) (v := .ref q15) (ty := .array .int) (C := RX2) (T := TX2) (N := 3) hx hb hg inX2 tyX2 tyX2_ok nmX2 hown hKT hP hD hS 0 rfl rfl 1 (by decide) (hg _ gF_X2_15) (fun _ h9 => h9) rfl hin rfl (by decide +kernel) rfl rfl (Nat.le_of_ble_eq_true rfl) dX2_init_17 (fun H locs hP hD hS => ?_)
  have hP : va_P G vwCl [(h0, .inr (2, [.ref q7, .ref q15, .int 0])), (q7, .inl (cs 0, 6, .inl (fun _ => 0))), (q15, .inl (cs 0, 6, .inl (fun _ => 0)))] H := hP
  have hD : va_D A [(h0, .inr (2, [.ref q7, .ref q15, .int 0])), (q7, .inl (cs 0, 6, .inl (fun _ => 0))), (q15, .inl (cs 0, 6, .inl (fun _ => 0)))] := hD
  exact W.vret hx hb hr (fun t ht hW => ⟨⟨(q7, q15), rfl, trivial, by rw [ht]; exact hP, hD⟩, hS.F ht⟩) hS.2.2 dX2_init_20
def rm_X3_init : Room := { frames := 1, cells := 0, slots := 0, locals := 24 }
theorem mN_X3_init : MN yX3_init cX3_init 1 0 := ⟨gI_X3_init, gN_X3, gC_X3_init, rfl, by decide +kernel⟩
/-- the cells behind X3_init() -/
def wn_X3_init (cs : Nat → ClassId) (h0 : Nat) (u : Unit) : va_W := [(h0, .inr (3, [.int 0, .int 0, .int 0, .int 0, .int 0, .long 0]))]
set_option maxHeartbeats 4000000 in
set_option maxRecDepth 100000 in
theorem k_X3_init (l : Launch) (G : va_G) (cs : Nat → ClassId) (h0 : Nat) (sz : Nat) : Met l yX3_init (.code yX3_init cX3_init 1 none :: GW) rm_X3_init (PcW G cs [.ref h0] [(h0, .inr (3, [.int 0, .int 0, .int 0, .int 0, .int 0, .long 0]))] sz) (QcN (S := Unit) G (va_A [(h0, .inr (3, [.int 0, .int 0, .int 0, .int 0, .int 0, .long 0]))] sz) (wn_X3_init cs h0)) 0 0 (va_A [(h0, .inr (3, [.int 0, .int 0, .int 0, .int 0, .int 0, .long 0]))] sz) := by
  refine Met.ofW (cc := cX3_init) (maxL := 1) (ret := none) (by decide) rfl ?_
  intro p e s m args below meth c s₁ B hml hv
  obtain ⟨rfl, hsz, hP, hD0, hKT, hN⟩ := hv
  have hx := B.exec
  have hb := B.bytes
  have hr := B.returns
  have hts := atoms_spec (ws := .code yX3_init cX3_init 1 none :: GW) B.pre
  have hg : ∀ w ∈ GW, w.before _ s = true := fun w h => hts w (List.mem_cons_of_mem _ h)
  have hown : s.vm.findClass RX3 = some m.cls := findClass_of_methodNamed B.named
  have hlocks := B.notSynchronized
  have hin : meth.name = "<init>" := (name_of_methodNamed B.named B.method).1
  subst hsz
  have hD := hD0.self (sz := s.heap.size)
  generalize hAe : va_A [(h0, .inr (3, [.int 0, .int 0, .int 0, .int 0, .int 0, .long 0]))] s.heap.size = A at hD ⊢
  have hA : ∀ q : Nat, s.heap.size ≤ q → A q := fun q h => by rw [← hAe]; exact Or.inr h
  have hS : va_S A s.heap s.heap [] := va_S.rf
  have hl := lv_entry ([.ref h0]) (n := 1) (Nat.le_of_ble_eq_true rfl)
  rw [lg_entry_eq]
  generalize (lg_sl ([.ref h0]) ++ List.replicate (1 - (lg_sl ([.ref h0])).length) Slot.unset).toArray = ls at hl ⊢
  have hl : lv_has ls 1 [(0, .ref h0)] := hl
  obtain ⟨H, hHe⟩ : ∃ H, H = s.heap := ⟨_, rfl⟩
  obtain ⟨locs, hLe⟩ : ∃ L : List Loc, L = [] := ⟨_, rfl⟩
  rw [← hHe] at hP
  have hS : va_S A s.heap H locs := by rw [hHe, hLe]; exact hS
  suffices hgo : W p l e rm_X3_init s m ([.ref h0] : List Value).toArray below meth c H locs 0 0 (MQ below (QcN (S := Unit) G A (wn_X3_init cs h0)) ([.ref h0] : List Value).toArray s 0 0 A) (F0 m 0 ls []) by rw [hHe, hLe] at hgo; exact hgo
  refine lv_aload_n hx hb dX3_init_0 rfl (lv_at hl 0 rfl) ?_
  refine W.objInit hx hb hown (hg _ gM_X3_1) (hg _ gI_objectInit) (hg _ gC_objectInit) rfl (by rw [hml]; exact hl.1) rfl dX3_init_1 (Nat.le_of_ble_eq_true rfl) (Nat.le_of_ble_eq_true rfl) ?_
  refine W.eq (g2 := F0 m 4 ls []) rfl ?_
  exact W.vret hx hb hr (fun t ht hW => ⟨⟨(), rfl, trivial, by rw [ht]; exact hP, hD⟩, hS.F ht⟩) hS.2.2 dX3_init_4
def rm_X4_init : Room := { frames := 1, cells := 1, slots := 120, locals := 24 }
theorem mN_X4_init : MN yX4_init cX4_init 1 0 := ⟨gI_X4_init, gN_X4, gC_X4_init, rfl, by decide +kernel⟩
/-- the cells behind X4_init() -/
def wn_X4_init (cs : Nat → ClassId) (h0 : Nat) (u : Nat) : va_W := [(h0, .inr (4, [.ref u, .int 0, .int 0, .int 0, .int 0, .int 0, .int 0, .int 0])), (u, .inl (cs 0, 120, .inl (fun _ => 0)))]
set_option maxHeartbeats 4000000 in
set_option maxRecDepth 100000 in
theorem k_X4_init (l : Launch) (G : va_G) (cs : Nat → ClassId) (h0 : Nat) (sz : Nat) : Met l yX4_init (.code yX4_init cX4_init 1 none :: GW) rm_X4_init (PcW G cs [.ref h0] [(h0, .inr (4, [.null, .int 0, .int 0, .int 0, .int 0, .int 0, .int 0, .int 0]))] sz) (QcN (S := Nat) G (va_A [(h0, .inr (4, [.null, .int 0, .int 0, .int 0, .int 0, .int 0, .int 0, .int 0]))] sz) (wn_X4_init cs h0)) 1 120 (va_A [(h0, .inr (4, [.null, .int 0, .int 0, .int 0, .int 0, .int 0, .int 0, .int 0]))] sz) := by
  refine Met.ofW (cc := cX4_init) (maxL := 1) (ret := none) (by decide) rfl ?_
  intro p e s m args below meth c s₁ B hml hv
  obtain ⟨rfl, hsz, hP, hD0, hKT, hN⟩ := hv
  have hx := B.exec
  have hb := B.bytes
  have hr := B.returns
  have hts := atoms_spec (ws := .code yX4_init cX4_init 1 none :: GW) B.pre
  have hg : ∀ w ∈ GW, w.before _ s = true := fun w h => hts w (List.mem_cons_of_mem _ h)
  have hown : s.vm.findClass RX4 = some m.cls := findClass_of_methodNamed B.named
  have hlocks := B.notSynchronized
  have hin : meth.name = "<init>" := (name_of_methodNamed B.named B.method).1
  subst hsz
  have hD := hD0.self (sz := s.heap.size)
  generalize hAe : va_A [(h0, .inr (4, [.null, .int 0, .int 0, .int 0, .int 0, .int 0, .int 0, .int 0]))] s.heap.size = A at hD ⊢
  have hA : ∀ q : Nat, s.heap.size ≤ q → A q := fun q h => by rw [← hAe]; exact Or.inr h
  have hS : va_S A s.heap s.heap [] := va_S.rf
  have hl := lv_entry ([.ref h0]) (n := 1) (Nat.le_of_ble_eq_true rfl)
  rw [lg_entry_eq]
  generalize (lg_sl ([.ref h0]) ++ List.replicate (1 - (lg_sl ([.ref h0])).length) Slot.unset).toArray = ls at hl ⊢
  have hl : lv_has ls 1 [(0, .ref h0)] := hl
  obtain ⟨H, hHe⟩ : ∃ H, H = s.heap := ⟨_, rfl⟩
  obtain ⟨locs, hLe⟩ : ∃ L : List Loc, L = [] := ⟨_, rfl⟩
  rw [← hHe] at hP
  have hS : va_S A s.heap H locs := by rw [hHe, hLe]; exact hS
  suffices hgo : W p l e rm_X4_init s m ([.ref h0] : List Value).toArray below meth c H locs 0 0 (MQ below (QcN (S := Nat) G A (wn_X4_init cs h0)) ([.ref h0] : List Value).toArray s 1 120 A) (F0 m 0 ls []) by rw [hHe, hLe] at hgo; exact hgo
  refine lv_aload_n hx hb dX4_init_0 rfl (lv_at hl 0 rfl) ?_
  refine W.objInit hx hb hown (hg _ gM_X4_3) (hg _ gI_objectInit) (hg _ gC_objectInit) rfl (by rw [hml]; exact hl.1) rfl dX4_init_1 (Nat.le_of_ble_eq_true rfl) (Nat.le_of_ble_eq_true rfl) ?_
  refine W.eq (g2 := F0 m 4 ls []) rfl ?_
  refine lv_aload_n hx hb dX4_init_4 rfl (lv_at hl 0 rfl) ?_
  refine lv_bipush (v := 120) hx hb dX4_init_5 (by decide) ?_
  refine va_newa (atype := .int) (ty := .int) (N' := 120) (a0 := (120, .inl (fun _ => 0))) hx hb (hg _ gA_int) rfl hKT hP hD hS hA (fun _ => rfl) (by decide) (by decide) (by decide) (Nat.le_of_ble_eq_true rfl) (Nat.le_of_ble_eq_true rfl) dX4_init_7 (fun q7 cA H hK2 hP hD hS => ?_)
  obtain rfl := cA_int hKT hK2
  have hP : va_P G vwCl [(h0, .inr (4, [.null, .int 0, .int 0, .int 0, .int 0, .int 0, .int 0, .int 0])), (q7, .inl (cs 0, 120, .inl (fun _ => 0)))] H := hP
  have hD : va_D A [(h0, .inr (4, [.null, .int 0, .int 0, .int 0, .int 0, .int 0, .int 0, .int 0])), (q7, .inl (cs 0, 120, .inl (fun _ => 0)))] := hD
  refine W.widen (k := 1) (n := 120) (Nat.le_of_ble_eq_true rfl) (Nat.le_of_ble_eq_true rfl) ?_
  refine va_putF (D := G) (ci := 4) (v := .ref q7) (ty := .array .int) (C := RX4) (T := TX4) (N := 8) hx hb hg inX4 tyX4 tyX4_ok nmX4 hown hKT hP hD hS 0 rfl rfl 0 (by decide) (hg _ gF_X4_11) (fun _ h9 => h9) rfl hin rfl (by decide +kernel) rfl rfl (Nat.le_of_ble_eq_true rfl) dX4_init_9 (fun H locs hP hD hS => ?_)
  have hP : va_P G vwCl [(h0, .inr (4, [.ref q7, .int 0, .int 0, .int 0, .int 0, .int 0, .int 0, .int 0])), (q7, .inl (cs 0, 120, .inl (fun _ => 0)))] H := hP
  have hD : va_D A [(h0, .inr (4, [.ref q7, .int 0, .int 0, .int 0, .int 0, .int 0, .int 0, .int 0])), (q7, .inl (cs 0, 120, .inl (fun _ => 0)))] := hD
  exact W.vret hx hb hr (fun t ht hW => ⟨⟨q7, rfl, trivial, by rw [ht]; exact hP, hD⟩, hS.F ht⟩) hS.2.2 dX4_init_12
def rm_X5_init : Room := { frames := 1, cells := 0, slots := 0, locals := 24 }
theorem mN_X5_init : MN yX5_init cX5_init 2 1 := ⟨gI_X5_init, gN_X5, gC_X5_init, rfl, by decide +kernel⟩
/-- the cells behind X5_init() -/
def wn_X5_init (cs : Nat → ClassId) (h0 h1 : Nat) (u : Unit) : va_W := [(h0, .inr (5, [.ref h1, .int 0, .int 0, .int 0, .int 0]))]
set_option maxHeartbeats 4000000 in
set_option maxRecDepth 100000 in
theorem k_X5_init (l : Launch) (G : va_G) (cs : Nat → ClassId) (h0 h1 : Nat) (sz : Nat) : Met l yX5_init (.code yX5_init cX5_init 2 none :: GW) rm_X5_init (PcW G cs [.ref h0, .ref h1] [(h0, .inr (5, [.null, .int 0, .int 0, .int 0, .int 0]))] sz) (QcN (S := Unit) G (va_A [(h0, .inr (5, [.null, .int 0, .int 0, .int 0, .int 0]))] sz) (wn_X5_init cs h0 h1)) 0 0 (va_A [(h0, .inr (5, [.null, .int 0, .int 0, .int 0, .int 0]))] sz) := by
  refine Met.ofW (cc := cX5_init) (maxL := 2) (ret := none) (by decide) rfl ?_
  intro p e s m args below meth c s₁ B hml hv
  obtain ⟨rfl, hsz, hP, hD0, hKT, hN⟩ := hv
  have hx := B.exec
  have hb := B.bytes
  have hr := B.returns
  have hts := atoms_spec (ws := .code yX5_init cX5_init 2 none :: GW) B.pre
  have hg : ∀ w ∈ GW, w.before _ s = true := fun w h => hts w (List.mem_cons_of_mem _ h)
  have hown : s.vm.findClass RX5 = some m.cls := findClass_of_methodNamed B.named
  have hlocks := B.notSynchronized
  have hin : meth.name = "<init>" := (name_of_methodNamed B.named B.method).1
  subst hsz
  have hD := hD0.self (sz := s.heap.size)
  generalize hAe : va_A [(h0, .inr (5, [.null, .int 0, .int 0, .int 0, .int 0]))] s.heap.size = A at hD ⊢
  have hA : ∀ q : Nat, s.heap.size ≤ q → A q := fun q h => by rw [← hAe]; exact Or.inr h
  have hS : va_S A s.heap s.heap [] := va_S.rf
  have hl := lv_entry ([.ref h0, .ref h1]) (n := 2) (Nat.le_of_ble_eq_true rfl)
  rw [lg_entry_eq]
  generalize (lg_sl ([.ref h0, .ref h1]) ++ List.replicate (2 - (lg_sl ([.ref h0, .ref h1])).length) Slot.unset).toArray = ls at hl ⊢
  have hl : lv_has ls 2 [(0, .ref h0), (1, .ref h1)] := hl
  obtain ⟨H, hHe⟩ : ∃ H, H = s.heap := ⟨_, rfl⟩
  obtain ⟨locs, hLe⟩ : ∃ L : List Loc, L = [] := ⟨_, rfl⟩
  rw [← hHe] at hP
  have hS : va_S A s.heap H locs := by rw [hHe, hLe]; exact hS
  suffices hgo : W p l e rm_X5_init s m ([.ref h0, .ref h1] : List Value).toArray below meth c H locs 0 0 (MQ below (QcN (S := Unit) G A (wn_X5_init cs h0 h1)) ([.ref h0, .ref h1] : List Value).toArray s 0 0 A) (F0 m 0 ls []) by rw [hHe, hLe] at hgo; exact hgo
  refine lv_aload_n hx hb dX5_init_0 rfl (lv_at hl 0 rfl) ?_
  refine W.objInit hx hb hown (hg _ gM_X5_3) (hg _ gI_objectInit) (hg _ gC_objectInit) rfl (by rw [hml]; exact hl.1) rfl dX5_init_1 (Nat.le_of_ble_eq_true rfl) (Nat.le_of_ble_eq_true rfl) ?_
  refine W.eq (g2 := F0 m 4 ls []) rfl ?_
  refine lv_aload_n hx hb dX5_init_4 rfl (lv_at hl 0 rfl) ?_
  refine lv_aload_n hx hb dX5_init_5 rfl (lv_at hl 1 rfl) ?_
  refine va_putF (D := G) (ci := 5) (v := .ref h1) (ty := .object "MarginBooks$Laws") (C := RX5) (T := TX5) (N := 5) hx hb hg inX5 tyX5 tyX5_ok nmX5 hown hKT hP hD hS 0 rfl rfl 0 (by decide) (hg _ gF_X5_9) (fun _ h9 => h9) rfl hin rfl (by decide +kernel) rfl rfl (Nat.le_of_ble_eq_true rfl) dX5_init_6 (fun H locs hP hD hS => ?_)
  have hP : va_P G vwCl [(h0, .inr (5, [.ref h1, .int 0, .int 0, .int 0, .int 0]))] H := hP
  have hD : va_D A [(h0, .inr (5, [.ref h1, .int 0, .int 0, .int 0, .int 0]))] := hD
  exact W.vret hx hb hr (fun t ht hW => ⟨⟨(), rfl, trivial, by rw [ht]; exact hP, hD⟩, hS.F ht⟩) hS.2.2 dX5_init_9
def rm_X6_init : Room := { frames := 1, cells := 12, slots := 110, locals := 24 }
theorem mN_X6_init : MN yX6_init cX6_init 1 0 := ⟨gI_X6_init, gN_X6, gC_X6_init, rfl, by decide +kernel⟩
/-- the cells behind X6_init() -/
def wn_X6_init (cs : Nat → ClassId) (h0 : Nat) (u : Nat × (Nat → Nat)) : va_W := [(h0, .inr (6, [.ref u.1, .int 0])), (u.1, .inl (cs 3, 11, .inr (.inr (.inr (.inr (gO u.2)))))), (u.2 0, .inl (cs 0, 9, .inl (fun _ => 0))), (u.2 1, .inl (cs 0, 9, .inl (fun _ => 0))), (u.2 2, .inl (cs 0, 9, .inl (fun _ => 0))), (u.2 3, .inl (cs 0, 9, .inl (fun _ => 0))), (u.2 4, .inl (cs 0, 9, .inl (fun _ => 0))), (u.2 5, .inl (cs 0, 9, .inl (fun _ => 0))), (u.2 6, .inl (cs 0, 9, .inl (fun _ => 0))), (u.2 7, .inl (cs 0, 9, .inl (fun _ => 0))), (u.2 8, .inl (cs 0, 9, .inl (fun _ => 0))), (u.2 9, .inl (cs 0, 9, .inl (fun _ => 0))), (u.2 10, .inl (cs 0, 9, .inl (fun _ => 0)))]
set_option maxHeartbeats 4000000 in
set_option maxRecDepth 100000 in
theorem k_X6_init (l : Launch) (G : va_G) (cs : Nat → ClassId) (h0 : Nat) (sz : Nat) : Met l yX6_init (.code yX6_init cX6_init 1 none :: GW) rm_X6_init (PcG G cs [.ref h0] [(h0, .inr (6, [.null, .int 0]))] sz) (QcN (S := Nat × (Nat → Nat)) G (va_A [(h0, .inr (6, [.null, .int 0]))] sz) (wn_X6_init cs h0)) 12 110 (va_A [(h0, .inr (6, [.null, .int 0]))] sz) := by
  refine Met.ofW (cc := cX6_init) (maxL := 1) (ret := none) (by decide) rfl ?_
  intro p e s m args below meth c s₁ B hml hv
  obtain ⟨rfl, hsz, hP, hD0, hKT, hN, hO⟩ := hv
  have hx := B.exec
  have hb := B.bytes
  have hr := B.returns
  have hts := atoms_spec (ws := .code yX6_init cX6_init 1 none :: GW) B.pre
  have hg : ∀ w ∈ GW, w.before _ s = true := fun w h => hts w (List.mem_cons_of_mem _ h)
  have hown : s.vm.findClass RX6 = some m.cls := findClass_of_methodNamed B.named
  have hlocks := B.notSynchronized
  have hin : meth.name = "<init>" := (name_of_methodNamed B.named B.method).1
  subst hsz
  have hD := hD0.self (sz := s.heap.size)
  generalize hAe : va_A [(h0, .inr (6, [.null, .int 0]))] s.heap.size = A at hD ⊢
  have hA : ∀ q : Nat, s.heap.size ≤ q → A q := fun q h => by rw [← hAe]; exact Or.inr h
  have hS : va_S A s.heap s.heap [] := va_S.rf
  have hl := lv_entry ([.ref h0]) (n := 1) (Nat.le_of_ble_eq_true rfl)
  rw [lg_entry_eq]
  generalize (lg_sl ([.ref h0]) ++ List.replicate (1 - (lg_sl ([.ref h0])).length) Slot.unset).toArray = ls at hl ⊢
  have hl : lv_has ls 1 [(0, .ref h0)] := hl
  obtain ⟨H, hHe⟩ : ∃ H, H = s.heap := ⟨_, rfl⟩
  obtain ⟨locs, hLe⟩ : ∃ L : List Loc, L = [] := ⟨_, rfl⟩
  rw [← hHe] at hP
  have hS : va_S A s.heap H locs := by rw [hHe, hLe]; exact hS
  suffices hgo : W p l e rm_X6_init s m ([.ref h0] : List Value).toArray below meth c H locs 0 0 (MQ below (QcN (S := Nat × (Nat → Nat)) G A (wn_X6_init cs h0)) ([.ref h0] : List Value).toArray s 12 110 A) (F0 m 0 ls []) by rw [hHe, hLe] at hgo; exact hgo
  refine lv_aload_n hx hb dX6_init_0 rfl (lv_at hl 0 rfl) ?_
  refine W.objInit hx hb hown (hg _ gM_X6_5) (hg _ gI_objectInit) (hg _ gC_objectInit) rfl (by rw [hml]; exact hl.1) rfl dX6_init_1 (Nat.le_of_ble_eq_true rfl) (Nat.le_of_ble_eq_true rfl) ?_
  refine W.eq (g2 := F0 m 4 ls []) rfl ?_
  refine lv_aload_n hx hb dX6_init_4 rfl (lv_at hl 0 rfl) ?_
  refine lv_bipush (v := 11) hx hb dX6_init_5 (by decide) ?_
  refine lv_bipush (v := 9) hx hb dX6_init_7 (by decide) ?_
  refine va_mna (X := [(h0, .inr (6, [.null, .int 0]))]) (L := []) (f := fun _ => .inr (0, [])) (ty := .int) (cy := cs 0) (N' := 11) (K' := 9) (z := (9, .inl (fun _ => 0))) hx hb hown (hg _ gL_X6_11) hO (hg _ gA_int) (hKT.2 0 (cs 0, .int) rfl).2 hKT hP hD hS hA (by decide) (by decide) (by decide) (by decide) (by decide) (by decide) (by decide) rfl rfl (Nat.le_of_ble_eq_true rfl) (Nat.le_of_ble_eq_true rfl) (fun c => arrV_new c 9 (.int 0)) dX6_init_9 (fun q9 r9 cA H hri hrl hK2 hP hD hS => ?_)
  obtain rfl := cA_arr hKT hK2
  rw [← vr_rows (fun a _ h => absurd h List.not_mem_nil)] at hP hD
  have hP : va_P G vwCl [(h0, .inr (6, [.null, .int 0])), (q9, .inl (cs 3, 11, .inr (.inr (.inr (.inr (gO r9)))))), (r9 0, .inl (cs 0, 9, .inl (fun _ => 0))), (r9 1, .inl (cs 0, 9, .inl (fun _ => 0))), (r9 2, .inl (cs 0, 9, .inl (fun _ => 0))), (r9 3, .inl (cs 0, 9, .inl (fun _ => 0))), (r9 4, .inl (cs 0, 9, .inl (fun _ => 0))), (r9 5, .inl (cs 0, 9, .inl (fun _ => 0))), (r9 6, .inl (cs 0, 9, .inl (fun _ => 0))), (r9 7, .inl (cs 0, 9, .inl (fun _ => 0))), (r9 8, .inl (cs 0, 9, .inl (fun _ => 0))), (r9 9, .inl (cs 0, 9, .inl (fun _ => 0))), (r9 10, .inl (cs 0, 9, .inl (fun _ => 0)))] H := hP
  have hD : va_D A [(h0, .inr (6, [.null, .int 0])), (q9, .inl (cs 3, 11, .inr (.inr (.inr (.inr (gO r9)))))), (r9 0, .inl (cs 0, 9, .inl (fun _ => 0))), (r9 1, .inl (cs 0, 9, .inl (fun _ => 0))), (r9 2, .inl (cs 0, 9, .inl (fun _ => 0))), (r9 3, .inl (cs 0, 9, .inl (fun _ => 0))), (r9 4, .inl (cs 0, 9, .inl (fun _ => 0))), (r9 5, .inl (cs 0, 9, .inl (fun _ => 0))), (r9 6, .inl (cs 0, 9, .inl (fun _ => 0))), (r9 7, .inl (cs 0, 9, .inl (fun _ => 0))), (r9 8, .inl (cs 0, 9, .inl (fun _ => 0))), (r9 9, .inl (cs 0, 9, .inl (fun _ => 0))), (r9 10, .inl (cs 0, 9, .inl (fun _ => 0)))] := hD
  refine W.widen (k := 12) (n := 110) (Nat.le_of_ble_eq_true rfl) (Nat.le_of_ble_eq_true rfl) ?_
  refine va_putF (D := G) (ci := 6) (v := .ref q9) (ty := .array (.array .int)) (C := RX6) (T := TX6) (N := 2) hx hb hg inX6 tyX6 tyX6_ok nmX6 hown hKT hP hD hS 0 rfl rfl 0 (by decide) (hg _ gF_X6_13) (fun _ h9 => h9) rfl hin rfl (by decide +kernel) rfl rfl (Nat.le_of_ble_eq_true rfl) dX6_init_13 (fun H locs hP hD hS => ?_)
  have hP : va_P G vwCl [(h0, .inr (6, [.ref q9, .int 0])), (q9, .inl (cs 3, 11, .inr (.inr (.inr (.inr (gO r9)))))), (r9 0, .inl (cs 0, 9, .inl (fun _ => 0))), (r9 1, .inl (cs 0, 9, .inl (fun _ => 0))), (r9 2, .inl (cs 0, 9, .inl (fun _ => 0))), (r9 3, .inl (cs 0, 9, .inl (fun _ => 0))), (r9 4, .inl (cs 0, 9, .inl (fun _ => 0))), (r9 5, .inl (cs 0, 9, .inl (fun _ => 0))), (r9 6, .inl (cs 0, 9, .inl (fun _ => 0))), (r9 7, .inl (cs 0, 9, .inl (fun _ => 0))), (r9 8, .inl (cs 0, 9, .inl (fun _ => 0))), (r9 9, .inl (cs 0, 9, .inl (fun _ => 0))), (r9 10, .inl (cs 0, 9, .inl (fun _ => 0)))] H := hP
  have hD : va_D A [(h0, .inr (6, [.ref q9, .int 0])), (q9, .inl (cs 3, 11, .inr (.inr (.inr (.inr (gO r9)))))), (r9 0, .inl (cs 0, 9, .inl (fun _ => 0))), (r9 1, .inl (cs 0, 9, .inl (fun _ => 0))), (r9 2, .inl (cs 0, 9, .inl (fun _ => 0))), (r9 3, .inl (cs 0, 9, .inl (fun _ => 0))), (r9 4, .inl (cs 0, 9, .inl (fun _ => 0))), (r9 5, .inl (cs 0, 9, .inl (fun _ => 0))), (r9 6, .inl (cs 0, 9, .inl (fun _ => 0))), (r9 7, .inl (cs 0, 9, .inl (fun _ => 0))), (r9 8, .inl (cs 0, 9, .inl (fun _ => 0))), (r9 9, .inl (cs 0, 9, .inl (fun _ => 0))), (r9 10, .inl (cs 0, 9, .inl (fun _ => 0)))] := hD
  exact W.vret hx hb hr (fun t ht hW => ⟨⟨(q9, r9), rfl, trivial, by rw [ht]; exact hP, hD⟩, hS.F ht⟩) hS.2.2 dX6_init_16
def rm_X7_init : Room := { frames := 1, cells := 4, slots := 2500, locals := 24 }
theorem mN_X7_init : MN yX7_init cX7_init 2 1 := ⟨gI_X7_init, gN_X7, gC_X7_init, rfl, by decide +kernel⟩
/-- the cells behind X7_init() -/
def wn_X7_init (cs : Nat → ClassId) (h0 h1 : Nat) (u : Nat × Nat × Nat × Nat) : va_W := [(h0, .inr (7, [.ref h1, .ref u.1, .ref u.2.1, .ref u.2.2.1, .ref u.2.2.2, .int 0])), (u.1, .inl (cs 0, 625, .inl (fun _ => 0))), (u.2.1, .inl (cs 0, 625, .inl (fun _ => 0))), (u.2.2.1, .inl (cs 0, 625, .inl (fun _ => 0))), (u.2.2.2, .inl (cs 0, 625, .inl (fun _ => 0)))]
set_option maxHeartbeats 4000000 in
set_option maxRecDepth 100000 in
theorem k_X7_init (l : Launch) (G : va_G) (cs : Nat → ClassId) (h0 h1 : Nat) (sz : Nat) : Met l yX7_init (.code yX7_init cX7_init 2 none :: GW) rm_X7_init (PcW G cs [.ref h0, .ref h1] [(h0, .inr (7, [.null, .null, .null, .null, .null, .int 0]))] sz) (QcN (S := Nat × Nat × Nat × Nat) G (va_A [(h0, .inr (7, [.null, .null, .null, .null, .null, .int 0]))] sz) (wn_X7_init cs h0 h1)) 4 2500 (va_A [(h0, .inr (7, [.null, .null, .null, .null, .null, .int 0]))] sz) := by
  refine Met.ofW (cc := cX7_init) (maxL := 2) (ret := none) (by decide) rfl ?_
  intro p e s m args below meth c s₁ B hml hv
  obtain ⟨rfl, hsz, hP, hD0, hKT, hN⟩ := hv
  have hx := B.exec
  have hb := B.bytes
  have hr := B.returns
  have hts := atoms_spec (ws := .code yX7_init cX7_init 2 none :: GW) B.pre
  have hg : ∀ w ∈ GW, w.before _ s = true := fun w h => hts w (List.mem_cons_of_mem _ h)
  have hown : s.vm.findClass RX7 = some m.cls := findClass_of_methodNamed B.named
  have hlocks := B.notSynchronized
  have hin : meth.name = "<init>" := (name_of_methodNamed B.named B.method).1
  subst hsz
  have hD := hD0.self (sz := s.heap.size)
  generalize hAe : va_A [(h0, .inr (7, [.null, .null, .null, .null, .null, .int 0]))] s.heap.size = A at hD ⊢
  have hA : ∀ q : Nat, s.heap.size ≤ q → A q := fun q h => by rw [← hAe]; exact Or.inr h
  have hS : va_S A s.heap s.heap [] := va_S.rf
  have hl := lv_entry ([.ref h0, .ref h1]) (n := 2) (Nat.le_of_ble_eq_true rfl)
  rw [lg_entry_eq]
  generalize (lg_sl ([.ref h0, .ref h1]) ++ List.replicate (2 - (lg_sl ([.ref h0, .ref h1])).length) Slot.unset).toArray = ls at hl ⊢
  have hl : lv_has ls 2 [(0, .ref h0), (1, .ref h1)] := hl
  obtain ⟨H, hHe⟩ : ∃ H, H = s.heap := ⟨_, rfl⟩
  obtain ⟨locs, hLe⟩ : ∃ L : List Loc, L = [] := ⟨_, rfl⟩
  rw [← hHe] at hP
  have hS : va_S A s.heap H locs := by rw [hHe, hLe]; exact hS
  suffices hgo : W p l e rm_X7_init s m ([.ref h0, .ref h1] : List Value).toArray below meth c H locs 0 0 (MQ below (QcN (S := Nat × Nat × Nat × Nat) G A (wn_X7_init cs h0 h1)) ([.ref h0, .ref h1] : List Value).toArray s 4 2500 A) (F0 m 0 ls []) by rw [hHe, hLe] at hgo; exact hgo
  refine lv_aload_n hx hb dX7_init_0 rfl (lv_at hl 0 rfl) ?_
  refine W.objInit hx hb hown (hg _ gM_X7_3) (hg _ gI_objectInit) (hg _ gC_objectInit) rfl (by rw [hml]; exact hl.1) rfl dX7_init_1 (Nat.le_of_ble_eq_true rfl) (Nat.le_of_ble_eq_true rfl) ?_
  refine W.eq (g2 := F0 m 4 ls []) rfl ?_
  refine lv_aload_n hx hb dX7_init_4 rfl (lv_at hl 0 rfl) ?_
  refine lv_sipush (v := 625) hx hb dX7_init_5 (by decide) ?_
  refine va_newa (atype := .int) (ty := .int) (N' := 625) (a0 := (625, .inl (fun _ => 0))) hx hb (hg _ gA_int) rfl hKT hP hD hS hA (fun _ => rfl) (by decide) (by decide) (by decide) (Nat.le_of_ble_eq_true rfl) (Nat.le_of_ble_eq_true rfl) dX7_init_8 (fun q8 cA H hK2 hP hD hS => ?_)
  obtain rfl := cA_int hKT hK2
  have hP : va_P G vwCl [(h0, .inr (7, [.null, .null, .null, .null, .null, .int 0])), (q8, .inl (cs 0, 625, .inl (fun _ => 0)))] H := hP
  have hD : va_D A [(h0, .inr (7, [.null, .null, .null, .null, .null, .int 0])), (q8, .inl (cs 0, 625, .inl (fun _ => 0)))] := hD
  refine W.widen (k := 1) (n := 625) (Nat.le_of_ble_eq_true rfl) (Nat.le_of_ble_eq_true rfl) ?_
  refine va_putF (D := G) (ci := 7) (v := .ref q8) (ty := .array .int) (C := RX7) (T := TX7) (N := 6) hx hb hg inX7 tyX7 tyX7_ok nmX7 hown hKT hP hD hS 0 rfl rfl 1 (by decide) (hg _ gF_X7_9) (fun _ h9 => h9) rfl hin rfl (by decide +kernel) rfl rfl (Nat.le_of_ble_eq_true rfl) dX7_init_10 (fun H locs hP hD hS => ?_)
  have hP : va_P G vwCl [(h0, .inr (7, [.null, .ref q8, .null, .null, .null, .int 0])), (q8, .inl (cs 0, 625, .inl (fun _ => 0)))] H := hP
  have hD : va_D A [(h0, .inr (7, [.null, .ref q8, .null, .null, .null, .int 0])), (q8, .inl (cs 0, 625, .inl (fun _ => 0)))] := hD
  refine lv_aload_n hx hb dX7_init_13 rfl (lv_at hl 0 rfl) ?_
  refine lv_sipush (v := 625) hx hb dX7_init_14 (by decide) ?_
  refine va_newa (atype := .int) (ty := .int) (N' := 625) (a0 := (625, .inl (fun _ => 0))) hx hb (hg _ gA_int) rfl hKT hP hD hS hA (fun _ => rfl) (by decide) (by decide) (by decide) (Nat.le_of_ble_eq_true rfl) (Nat.le_of_ble_eq_true rfl) dX7_init_17 (fun q17 cA H hK2 hP hD hS => ?_)
  obtain rfl := cA_int hKT hK2
  have hP : va_P G vwCl [(h0, .inr (7, [.null, .ref q8, .null, .null, .null, .int 0])), (q8, .inl (cs 0, 625, .inl (fun _ => 0))), (q17, .inl (cs 0, 625, .inl (fun _ => 0)))] H := hP
  have hD : va_D A [(h0, .inr (7, [.null, .ref q8, .null, .null, .null, .int 0])), (q8, .inl (cs 0, 625, .inl (fun _ => 0))), (q17, .inl (cs 0, 625, .inl (fun _ => 0)))] := hD
  refine W.widen (k := 2) (n := 1250) (Nat.le_of_ble_eq_true rfl) (Nat.le_of_ble_eq_true rfl) ?_
  refine va_putF (D := G) (ci := 7) (v := .ref q17) (ty := .array .int) (C := RX7) (T := TX7) (N := 6) hx hb hg inX7 tyX7 tyX7_ok nmX7 hown hKT hP hD hS 0 rfl rfl 2 (by decide) (hg _ gF_X7_15) (fun _ h9 => h9) rfl hin rfl (by decide +kernel) rfl rfl (Nat.le_of_ble_eq_true rfl) dX7_init_19 (fun H locs hP hD hS => ?_)
  have hP : va_P G vwCl [(h0, .inr (7, [.null, .ref q8, .ref q17, .null, .null, .int 0])), (q8, .inl (cs 0, 625, .inl (fun _ => 0))), (q17, .inl (cs 0, 625, .inl (fun _ => 0)))] H := hP
  have hD : va_D A [(h0, .inr (7, [.null, .ref q8, .ref q17, .null, .null, .int 0])), (q8, .inl (cs 0, 625, .inl (fun _ => 0))), (q17, .inl (cs 0, 625, .inl (fun _ => 0)))] := hD
  refine lv_aload_n hx hb dX7_init_22 rfl (lv_at hl 0 rfl) ?_
  refine lv_sipush (v := 625) hx hb dX7_init_23 (by decide) ?_
  refine va_newa (atype := .int) (ty := .int) (N' := 625) (a0 := (625, .inl (fun _ => 0))) hx hb (hg _ gA_int) rfl hKT hP hD hS hA (fun _ => rfl) (by decide) (by decide) (by decide) (Nat.le_of_ble_eq_true rfl) (Nat.le_of_ble_eq_true rfl) dX7_init_26 (fun q26 cA H hK2 hP hD hS => ?_)
  obtain rfl := cA_int hKT hK2
  have hP : va_P G vwCl [(h0, .inr (7, [.null, .ref q8, .ref q17, .null, .null, .int 0])), (q8, .inl (cs 0, 625, .inl (fun _ => 0))), (q17, .inl (cs 0, 625, .inl (fun _ => 0))), (q26, .inl (cs 0, 625, .inl (fun _ => 0)))] H := hP
  have hD : va_D A [(h0, .inr (7, [.null, .ref q8, .ref q17, .null, .null, .int 0])), (q8, .inl (cs 0, 625, .inl (fun _ => 0))), (q17, .inl (cs 0, 625, .inl (fun _ => 0))), (q26, .inl (cs 0, 625, .inl (fun _ => 0)))] := hD
  refine W.widen (k := 3) (n := 1875) (Nat.le_of_ble_eq_true rfl) (Nat.le_of_ble_eq_true rfl) ?_
  refine va_putF (D := G) (ci := 7) (v := .ref q26) (ty := .array .int) (C := RX7) (T := TX7) (N := 6) hx hb hg inX7 tyX7 tyX7_ok nmX7 hown hKT hP hD hS 0 rfl rfl 3 (by decide) (hg _ gF_X7_18) (fun _ h9 => h9) rfl hin rfl (by decide +kernel) rfl rfl (Nat.le_of_ble_eq_true rfl) dX7_init_28 (fun H locs hP hD hS => ?_)
  have hP : va_P G vwCl [(h0, .inr (7, [.null, .ref q8, .ref q17, .ref q26, .null, .int 0])), (q8, .inl (cs 0, 625, .inl (fun _ => 0))), (q17, .inl (cs 0, 625, .inl (fun _ => 0))), (q26, .inl (cs 0, 625, .inl (fun _ => 0)))] H := hP
  have hD : va_D A [(h0, .inr (7, [.null, .ref q8, .ref q17, .ref q26, .null, .int 0])), (q8, .inl (cs 0, 625, .inl (fun _ => 0))), (q17, .inl (cs 0, 625, .inl (fun _ => 0))), (q26, .inl (cs 0, 625, .inl (fun _ => 0)))] := hD
  refine lv_aload_n hx hb dX7_init_31 rfl (lv_at hl 0 rfl) ?_
  refine lv_sipush (v := 625) hx hb dX7_init_32 (by decide) ?_
  refine va_newa (atype := .int) (ty := .int) (N' := 625) (a0 := (625, .inl (fun _ => 0))) hx hb (hg _ gA_int) rfl hKT hP hD hS hA (fun _ => rfl) (by decide) (by decide) (by decide) (Nat.le_of_ble_eq_true rfl) (Nat.le_of_ble_eq_true rfl) dX7_init_35 (fun q35 cA H hK2 hP hD hS => ?_)
  obtain rfl := cA_int hKT hK2
  have hP : va_P G vwCl [(h0, .inr (7, [.null, .ref q8, .ref q17, .ref q26, .null, .int 0])), (q8, .inl (cs 0, 625, .inl (fun _ => 0))), (q17, .inl (cs 0, 625, .inl (fun _ => 0))), (q26, .inl (cs 0, 625, .inl (fun _ => 0))), (q35, .inl (cs 0, 625, .inl (fun _ => 0)))] H := hP
  have hD : va_D A [(h0, .inr (7, [.null, .ref q8, .ref q17, .ref q26, .null, .int 0])), (q8, .inl (cs 0, 625, .inl (fun _ => 0))), (q17, .inl (cs 0, 625, .inl (fun _ => 0))), (q26, .inl (cs 0, 625, .inl (fun _ => 0))), (q35, .inl (cs 0, 625, .inl (fun _ => 0)))] := hD
  refine W.widen (k := 4) (n := 2500) (Nat.le_of_ble_eq_true rfl) (Nat.le_of_ble_eq_true rfl) ?_
  refine va_putF (D := G) (ci := 7) (v := .ref q35) (ty := .array .int) (C := RX7) (T := TX7) (N := 6) hx hb hg inX7 tyX7 tyX7_ok nmX7 hown hKT hP hD hS 0 rfl rfl 4 (by decide) (hg _ gF_X7_21) (fun _ h9 => h9) rfl hin rfl (by decide +kernel) rfl rfl (Nat.le_of_ble_eq_true rfl) dX7_init_37 (fun H locs hP hD hS => ?_)
  have hP : va_P G vwCl [(h0, .inr (7, [.null, .ref q8, .ref q17, .ref q26, .ref q35, .int 0])), (q8, .inl (cs 0, 625, .inl (fun _ => 0))), (q17, .inl (cs 0, 625, .inl (fun _ => 0))), (q26, .inl (cs 0, 625, .inl (fun _ => 0))), (q35, .inl (cs 0, 625, .inl (fun _ => 0)))] H := hP
  have hD : va_D A [(h0, .inr (7, [.null, .ref q8, .ref q17, .ref q26, .ref q35, .int 0])), (q8, .inl (cs 0, 625, .inl (fun _ => 0))), (q17, .inl (cs 0, 625, .inl (fun _ => 0))), (q26, .inl (cs 0, 625, .inl (fun _ => 0))), (q35, .inl (cs 0, 625, .inl (fun _ => 0)))] := hD
  refine lv_aload_n hx hb dX7_init_40 rfl (lv_at hl 0 rfl) ?_
  refine lv_aload_n hx hb dX7_init_41 rfl (lv_at hl 1 rfl) ?_
  refine va_putF (D := G) (ci := 7) (v := .ref h1) (ty := .object "MarginBooks$Laws") (C := RX7) (T := TX7) (N := 6) hx hb hg inX7 tyX7 tyX7_ok nmX7 hown hKT hP hD hS 0 rfl rfl 0 (by decide) (hg _ gF_X7_24) (fun _ h9 => h9) rfl hin rfl (by decide +kernel) rfl rfl (Nat.le_of_ble_eq_true rfl) dX7_init_42 (fun H locs hP hD hS => ?_)
  have hP : va_P G vwCl [(h0, .inr (7, [.ref h1, .ref q8, .ref q17, .ref q26, .ref q35, .int 0])), (q8, .inl (cs 0, 625, .inl (fun _ => 0))), (q17, .inl (cs 0, 625, .inl (fun _ => 0))), (q26, .inl (cs 0, 625, .inl (fun _ => 0))), (q35, .inl (cs 0, 625, .inl (fun _ => 0)))] H := hP
  have hD : va_D A [(h0, .inr (7, [.ref h1, .ref q8, .ref q17, .ref q26, .ref q35, .int 0])), (q8, .inl (cs 0, 625, .inl (fun _ => 0))), (q17, .inl (cs 0, 625, .inl (fun _ => 0))), (q26, .inl (cs 0, 625, .inl (fun _ => 0))), (q35, .inl (cs 0, 625, .inl (fun _ => 0)))] := hD
  exact W.vret hx hb hr (fun t ht hW => ⟨⟨(q8, q17, q26, q35), rfl, trivial, by rw [ht]; exact hP, hD⟩, hS.F ht⟩) hS.2.2 dX7_init_45
