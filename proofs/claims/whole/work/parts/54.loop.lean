def R_law : String := "MarginBooksLaw"
def lw_P (b : Addr) (xs : List Int32) (args : Array Value) (s : State) : Prop := args = #[.ref b] ∧ s.IntsAt b xs ∧ xs.length ≤ 256 ∧ (Jvm.Cond.and given_1 narrow_1).before args s = true
def lw_Q (_ : Array Value) (s : State) (o : Outcome) (t : State) : Prop := o = .returned (some (.int 1)) ∧ Framed s o t [] 600000 7302250
def lw_Z (below : List Frame) (a : Array Value) (s : State) : State → Prop := fun t => ∃ o, t.status = .running ∧ Ended t below o ∧ lw_Q a s o t
/-- the law's own end, with 1 on the stack, nothing written that was there before, its room as the claim has it -/
theorem lw_ret {p : Program} {l : Launch} {e : Env} {s : State} {m : MethodId} {below : List Frame} {meth : Method} {c : Code} {b : Nat} (hx : p.tables.exec = Jvm.exec) (hb : c.code = code) (hr : meth.sig.returnType = ret) (hlocks : meth.locks = false) {pc : Nat} {H : Heap} {ls : Array Slot} (hdg : decode code pc = .ok (.ireturn, 1)) : W p l e room_1 s m #[Value.ref b] below meth c H [] 600000 7302250 (lw_Z below #[Value.ref b] s) (F0 m pc ls [.int 1]) := by
  intro T hT X
  obtain ⟨fs, hret, hrun, hended, hW, hframe⟩ := X.leave (v := some (.int 1)) (hlocks := hlocks) (fun h => by rw [hr] at h; cases h)
  have hmeth' : T.vm.method? m = some meth := X.method'
  refine ⟨T.setFrames fs, ?_, .returned (some (.int 1)), hrun, hended, rfl, ⟨_, rfl⟩, hW, hframe⟩
  jvm_step X.here [X.here.top, hx, hb, hdg, hmeth', hr, ret, narrow_b1]
  (try refine ⟨rfl, ?_⟩); (try refine ⟨rfl, ?_⟩)
  first | (intro acts; rw [hret _ acts rfl rfl rfl]) | rw [hret _ _ rfl rfl rfl]
  exact Steps.refl _
/-- what holds at the law's entry: the machine, the code, the tables' words (any of lw_tbl by 'hts w (by decide +kernel)'), the script of L ints xs at the cell b, what the Statement gives of the start (any of its parts by flat_of_before) -/
def lw_At (p : Program) (s : State) (m : MethodId) (meth : Method) (c : Code) (b L : Nat) (xs : Nat → Int32) : Prop :=
  p.tables.exec = Jvm.exec ∧ c.code = code ∧ meth.sig.returnType = ret ∧ c.maxLocals = 4 ∧ s.vm.findClass R_law = some m.cls ∧ (∀ w ∈ lw_tbl, w.before #[Value.ref b] s = true) ∧ va_X b L xs s s.heap ∧ b < s.heap.size ∧ meth.locks = false ∧ (Jvm.Cond.and given_1 narrow_1).before #[Value.ref b] s = true
theorem and31 (x : Int32) : ∃ j, j < 32 ∧ x &&& (31 : Int32) = nI j := by
  refine ⟨(x.toBitVec &&& 31#32).toNat, ?_, ?_⟩
  · rw [BitVec.toNat_and]
    exact Nat.lt_of_le_of_lt Nat.and_le_right (by decide)
  · apply Int32.toBitVec_inj.mp
    rw [Int32.toBitVec_and]
    show x.toBitVec &&& 31#32 = BitVec.ofNat 32 _
    rw [BitVec.ofNat_toNat, BitVec.setWidth_eq]
theorem lcond {i sL : Nat} (hL : sL ≤ 256) (hi : i ≤ sL) (h : ¬ Int32.ofNat sL - (4 : Int32) < nI i) : i + 4 ≤ sL := by
  rw [Int32.lt_iff_toInt_lt, nI_toInt (by omega)] at h
  have e : (Int32.ofNat sL - (4 : Int32)).toInt = (sL : Int) - (4 : Nat) := pk_sub_toInt (a := sL) (b := 4) (by omega) (by decide)
  omega
set_option maxHeartbeats 4000000 in
set_option maxRecDepth 100000 in
theorem law_loop {p : Program} {l : Launch} {e : Env} {s : State} {m : MethodId} {below : List Frame} {meth : Method} {c : Code} {G : va_G} {cs : Nat → ClassId} {sb sL : Nat} {xs : Nat → Int32} {a_t a_t_reader a_t_laws a_t_standing a_t_imageZero a_t_imageOne a_t_rounds a_t_ways a_t_margins a_t_marks a_t_reader_text a_t_laws_made a_t_standing_rows a_t_imageZero_rows a_t_imageOne_rows a_t_ways_distance a_t_ways_before a_t_ways_lastScribe a_t_ways_queue a_t_margins_of a_t_margins_said m_t m_t_text m_t_opinions m_t_lines m_t_draftBook m_t_scribes m_t_turn m_t_bent m_t_need m_t_now m_t_isKept m_t_far m_t_marginOf m_t_marginSays : Nat} {r_t_standing_rows r_t_imageZero_rows r_t_imageOne_rows : Nat → Nat} (hL : sL ≤ 256) (hr : meth.sig.returnType = ret) (hlocks : meth.locks = false) (C0 : LC p s m c sb sL xs G cs) :
    ∀ (fu i : Nat), i ≤ sL → sL + 1 ≤ i + fu → ∀ (H : Heap) (locs : List Loc), INV G cs (fun q : Nat => s.heap.size ≤ q) s.heap a_t a_t_reader a_t_laws a_t_standing a_t_imageZero a_t_imageOne a_t_rounds a_t_ways a_t_margins a_t_marks a_t_reader_text a_t_laws_made a_t_standing_rows a_t_imageZero_rows a_t_imageOne_rows a_t_ways_distance a_t_ways_before a_t_ways_lastScribe a_t_ways_queue a_t_margins_of a_t_margins_said m_t m_t_text m_t_opinions m_t_lines m_t_draftBook m_t_scribes m_t_turn m_t_bent m_t_need m_t_now m_t_isKept m_t_far m_t_marginOf m_t_marginSays r_t_standing_rows r_t_imageZero_rows r_t_imageOne_rows H locs → ∀ (ls : Array Slot), lv_has ls 4 [(0, .ref sb), (1, .ref a_t), (2, .ref m_t), (3, .int (nI i))] → W p l e room_1 s m #[Value.ref sb] below meth c H locs 74 7924 (lw_Z below #[Value.ref sb] s) (F0 m 18 ls []) := by
  obtain ⟨hx, hb, hml, hown, hg, hX, hbl, hKT, hN, hST⟩ := id C0
  have hA : ∀ q : Nat, s.heap.size ≤ q → (fun q : Nat => s.heap.size ≤ q) q := fun _ h => h
  have hbA : ¬ (fun q : Nat => s.heap.size ≤ q) sb := Nat.not_le.mpr hbl
  intro fu
  induction fu with
  | zero =>
    intro i h1 h2
    exact absurd h2 (by omega)
  | succ fu ih =>
    intro i hi hin H locs hI ls hl
    have hS : va_S (fun q : Nat => s.heap.size ≤ q) s.heap H locs := hI _ (fun _ _ _ _ _ _ _ _ _ _ _ _ _ _ _ _ _ _ _ _ _ _ _ _ _ _ _ _ _ _ _ _ _ _ _ _ _ _ _ _ _ _ _ _ _ _ _ _ _ _ _ _ _ _ _ _ _ _ _ _ _ _ _ _ _ _ _ _ _ _ _ _ _ _ _ _ _ _ _ _ _ _ _ _ _ _ hS _ => hS)
    refine lv_iload_n hx hb dL_law_18 rfl (lv_at hl 3 rfl) ?_
    refine lv_aload_n hx hb dL_law_19 rfl (lv_at hl 0 rfl) ?_
    refine va_slen hx hb hX hbl hbA hS dL_law_20 ?_
    refine lv_iconst (v := 4) hx hb dL_law_21 (by decide) ?_
    refine lv_isub hx hb dL_law_22 ?_
    refine lv_icmp_gt (tgt := 844) hx hb dL_law_23 (by decide) (fun cc => ?_) (fun cc => ?_)
    · refine lv_iconst (v := 1) hx hb dL_law_844 (by decide) ?_
      refine va_forget (fun q hq => hS.2.2 q hq) ?_
      refine W.widen (k := 600000) (n := 7302250) (Nat.le_of_ble_eq_true rfl) (Nat.le_of_ble_eq_true rfl) ?_
      exact lw_ret hx hb hr hlocks dL_law_845
    · have h4 : i + 4 ≤ sL := lcond hL hi cc
      have hv0 : vp_in (nI i) sL := gN (by omega) (by omega)
      have hv1 : vp_in (nI i + 1) sL := by rw [nI_1]; exact gN (by omega) (by omega)
      have hv2 : vp_in (nI i + 2) sL := by rw [show nI i + (2 : Int32) = nI (i + 2) from nI_add i 2]; exact gN (by omega) (by omega)
      have hv3 : vp_in (nI i + 3) sL := by rw [show nI i + (3 : Int32) = nI (i + 3) from nI_add i 3]; exact gN (by omega) (by omega)
      have hk : ∀ (H1 : Heap) (locs1 : List Loc), INV G cs (fun q : Nat => s.heap.size ≤ q) s.heap a_t a_t_reader a_t_laws a_t_standing a_t_imageZero a_t_imageOne a_t_rounds a_t_ways a_t_margins a_t_marks a_t_reader_text a_t_laws_made a_t_standing_rows a_t_imageZero_rows a_t_imageOne_rows a_t_ways_distance a_t_ways_before a_t_ways_lastScribe a_t_ways_queue a_t_margins_of a_t_margins_said m_t m_t_text m_t_opinions m_t_lines m_t_draftBook m_t_scribes m_t_turn m_t_bent m_t_need m_t_now m_t_isKept m_t_far m_t_marginOf m_t_marginSays r_t_standing_rows r_t_imageZero_rows r_t_imageOne_rows H1 locs1 → W p l e room_1 s m #[Value.ref sb] below meth c H1 locs1 74 7924 (lw_Z below #[Value.ref sb] s) (F0 m 838 ls []) := by
        intro H1 locs1 hI1
        refine lv_iinc (v := nI (i + 4)) (lv' := [(3, .int (nI (i + 4))), (0, .ref sb), (1, .ref a_t), (2, .ref m_t)]) hx hb dL_law_838 hl (k := 3) rfl (nI_add i 4) (by decide) rfl (fun ls hl => ?_)
        refine lv_goto (tgt := 18) hx hb dL_law_841 (by decide) ?_
        exact ih (i + 4) h4 (by omega) H1 locs1 hI1 ls (lv_sub hl [1, 2, 3, 0] rfl)
      refine lv_aload_n hx hb dL_law_26 rfl (lv_at hl 0 rfl) ?_
      refine lv_iload_n hx hb dL_law_27 rfl (lv_at hl 3 rfl) ?_
      refine va_sld hx hb hX hbl hbA hS hv0 dL_law_28 ?_
      refine lv_bipush (v := 31) hx hb dL_law_29 (by decide) ?_
      refine lv_iand hx hb dL_law_31 ?_
      obtain ⟨j, hj, ej⟩ := and31 (xs (nI i).toNatClampNeg)
      rw [ej]
      by_cases hj2 : 27 ≤ j
      · refine lv_tableOut (tgt := 838) hx hb dL_law_32 (Or.inr (by rw [nI_toInt (by omega)]; omega)) (by decide) ?_
        exact hk H locs hI
      · rcases (show j = 0 ∨ j = 1 ∨ j = 2 ∨ j = 3 ∨ j = 4 ∨ j = 5 ∨ j = 6 ∨ j = 7 ∨ j = 8 ∨ j = 9 ∨ j = 10 ∨ j = 11 ∨ j = 12 ∨ j = 13 ∨ j = 14 ∨ j = 15 ∨ j = 16 ∨ j = 17 ∨ j = 18 ∨ j = 19 ∨ j = 20 ∨ j = 21 ∨ j = 22 ∨ j = 23 ∨ j = 24 ∨ j = 25 ∨ j = 26 by omega) with rfl | rfl | rfl | rfl | rfl | rfl | rfl | rfl | rfl | rfl | rfl | rfl | rfl | rfl | rfl | rfl | rfl | rfl | rfl | rfl | rfl | rfl | rfl | rfl | rfl | rfl | rfl
        · exact lv_tableIn (off := 124) (tgt := 156) hx hb dL_law_32 (by decide) (by decide) rfl (by decide) (law_type C0 hl hv1 hI hk)
        · exact lv_tableIn (off := 147) (tgt := 179) hx hb dL_law_32 (by decide) (by decide) rfl (by decide) (law_clear C0 hl hI hk)
        · exact lv_tableIn (off := 160) (tgt := 192) hx hb dL_law_32 (by decide) (by decide) rfl (by decide) (law_house C0 hl hI hk)
        · exact lv_tableIn (off := 173) (tgt := 205) hx hb dL_law_32 (by decide) (by decide) rfl (by decide) (law_line C0 hl hv1 hv2 hI hk)
        · exact lv_tableIn (off := 206) (tgt := 238) hx hb dL_law_32 (by decide) (by decide) rfl (by decide) (law_scribe C0 hl hv1 hv2 hI hk)
        · exact lv_tableIn (off := 239) (tgt := 271) hx hb dL_law_32 (by decide) (by decide) rfl (by decide) (law_says C0 hl hv1 hv2 hI hk)
        · exact lv_tableIn (off := 272) (tgt := 304) hx hb dL_law_32 (by decide) (by decide) rfl (by decide) (law_copies C0 hl hv1 hI hk)
        · exact lv_tableIn (off := 295) (tgt := 327) hx hb dL_law_32 (by decide) (by decide) rfl (by decide) (law_errs C0 hl hv1 hv2 hI hk)
        · exact lv_tableIn (off := 328) (tgt := 360) hx hb dL_law_32 (by decide) (by decide) rfl (by decide) (law_releases C0 hl hv1 hv2 hI hk)
        · exact lv_tableIn (off := 361) (tgt := 393) hx hb dL_law_32 (by decide) (by decide) rfl (by decide) (law_aims C0 hl hv1 hv2 hI hk)
        · exact lv_tableIn (off := 394) (tgt := 426) hx hb dL_law_32 (by decide) (by decide) rfl (by decide) (law_undo C0 hl hI hk)
        · exact lv_tableIn (off := 407) (tgt := 439) hx hb dL_law_32 (by decide) (by decide) rfl (by decide) (law_now C0 hl hv1 hI hk)
        · exact lv_tableIn (off := 430) (tgt := 462) hx hb dL_law_32 (by decide) (by decide) rfl (by decide) (law_behind C0 hl hv1 hv2 hI hk)
        · exact lv_tableIn (off := 463) (tgt := 495) hx hb dL_law_32 (by decide) (by decide) rfl (by decide) (law_ends C0 hl hv1 hI hk)
        · exact lv_tableIn (off := 486) (tgt := 518) hx hb dL_law_32 (by decide) (by decide) rfl (by decide) (law_lasts C0 hl hv1 hI hk)
        · exact lv_tableIn (off := 509) (tgt := 541) hx hb dL_law_32 (by decide) (by decide) rfl (by decide) (law_buy C0 hl hv1 hI hk)
        · exact lv_tableIn (off := 532) (tgt := 564) hx hb dL_law_32 (by decide) (by decide) rfl (by decide) (law_odds C0 hl hv1 hv2 hv3 hI hk)
        · exact lv_tableIn (off := 575) (tgt := 607) hx hb dL_law_32 (by decide) (by decide) rfl (by decide) (law_way C0 hl hv1 hI hk)
        · exact lv_tableIn (off := 598) (tgt := 630) hx hb dL_law_32 (by decide) (by decide) rfl (by decide) (law_from C0 hl hv1 hI hk)
        · exact lv_tableIn (off := 621) (tgt := 653) hx hb dL_law_32 (by decide) (by decide) rfl (by decide) (law_saw C0 hl hv1 hv2 hI hk)
        · exact lv_tableIn (off := 654) (tgt := 686) hx hb dL_law_32 (by decide) (by decide) rfl (by decide) (law_forget C0 hl hI hk)
        · exact lv_tableIn (off := 667) (tgt := 699) hx hb dL_law_32 (by decide) (by decide) rfl (by decide) (law_fit C0 hl hv1 hI hk)
        · exact lv_tableIn (off := 690) (tgt := 722) hx hb dL_law_32 (by decide) (by decide) rfl (by decide) (law_mark C0 hl hv1 hv2 hI hk)
        · exact lv_tableIn (off := 723) (tgt := 755) hx hb dL_law_32 (by decide) (by decide) rfl (by decide) (law_keep C0 hl hv1 hI hk)
        · exact lv_tableIn (off := 746) (tgt := 778) hx hb dL_law_32 (by decide) (by decide) rfl (by decide) (law_back C0 hl hv1 hI hk)
        · exact lv_tableIn (off := 769) (tgt := 801) hx hb dL_law_32 (by decide) (by decide) rfl (by decide) (law_count C0 hl hv1 hI hk)
        · exact lv_tableIn (off := 792) (tgt := 824) hx hb dL_law_32 (by decide) (by decide) rfl (by decide) (law_trace C0 hl hI hk)
