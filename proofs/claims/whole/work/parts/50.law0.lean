/-! ===== the law: its world, what holds between two calls ===== -/
def WL (cs : Nat → ClassId) (a_t a_t_reader a_t_laws a_t_standing a_t_imageZero a_t_imageOne a_t_rounds a_t_ways a_t_margins a_t_marks a_t_reader_text a_t_laws_made a_t_standing_rows a_t_imageZero_rows a_t_imageOne_rows a_t_ways_distance a_t_ways_before a_t_ways_lastScribe a_t_ways_queue a_t_margins_of a_t_margins_said m_t m_t_text m_t_opinions m_t_lines m_t_draftBook m_t_scribes m_t_turn m_t_bent m_t_need m_t_now m_t_isKept m_t_far m_t_marginOf m_t_marginSays : Nat) (r_t_standing_rows r_t_imageZero_rows r_t_imageOne_rows : Nat → Nat) (a_t_house a_t_house_turn a_t_house_bent a_t_draft a_t_draft_turn a_t_draft_bent : Nat) (kZ kO vT hop hli hbo hto hsc hne dop dli dbo dto dsc dne vlen rnx rpl rso rva rbt rnt lsc lbk kn kn0 kn1 obk oco oen ogo wqd msz yun ytu ybe yti yco mty mnt mat mst mso mva mfa mtg mwe men mha mma : Int32) (tuC beC dtu dbe rt made wdi wbe wls wqu fC gC text op li mdb sc tu be ne now ik far fM gM : Nat → Int32) (rows rows0 rows1 : Nat → Nat → Int32) (tr mtr : Int64) : va_W := [(a_t, .inr (8, [.ref a_t_house, .ref a_t_draft, .ref a_t_reader, .ref a_t_laws, .ref a_t_standing, .ref a_t_imageZero, .ref a_t_imageOne, .int kZ, .int kO, .int vT, .ref a_t_rounds, .ref a_t_ways, .ref a_t_margins, .ref a_t_marks])), (a_t_house, .inr (0, [.int hop, .int hli, .int hbo, .int hto, .int hsc, .int hne, .ref a_t_house_turn, .ref a_t_house_bent])), (a_t_house_turn, .inl (cs 0, 6, .inl tuC)), (a_t_house_bent, .inl (cs 0, 6, .inl beC)), (a_t_draft, .inr (0, [.int dop, .int dli, .int dbo, .int dto, .int dsc, .int dne, .ref a_t_draft_turn, .ref a_t_draft_bent])), (a_t_draft_turn, .inl (cs 0, 6, .inl dtu)), (a_t_draft_bent, .inl (cs 0, 6, .inl dbe)), (a_t_reader, .inr (4, [.ref a_t_reader_text, .int vlen, .int rnx, .int rpl, .int rso, .int rva, .int rbt, .int rnt])), (a_t_reader_text, .inl (cs 0, 120, .inl rt)), (a_t_laws, .inr (1, [.ref a_t_laws_made, .int lsc, .int lbk])), (a_t_laws_made, .inl (cs 0, 3750, .inl made)), (a_t_standing, .inr (6, [.ref a_t_standing_rows, .int kn])), (a_t_standing_rows, .inl (cs 3, 11, .inr (.inr (.inr (.inr (gO r_t_standing_rows)))))), (r_t_standing_rows 0, .inl (cs 0, 9, .inl (rows 0))), (r_t_standing_rows 1, .inl (cs 0, 9, .inl (rows 1))), (r_t_standing_rows 2, .inl (cs 0, 9, .inl (rows 2))), (r_t_standing_rows 3, .inl (cs 0, 9, .inl (rows 3))), (r_t_standing_rows 4, .inl (cs 0, 9, .inl (rows 4))), (r_t_standing_rows 5, .inl (cs 0, 9, .inl (rows 5))), (r_t_standing_rows 6, .inl (cs 0, 9, .inl (rows 6))), (r_t_standing_rows 7, .inl (cs 0, 9, .inl (rows 7))), (r_t_standing_rows 8, .inl (cs 0, 9, .inl (rows 8))), (r_t_standing_rows 9, .inl (cs 0, 9, .inl (rows 9))), (r_t_standing_rows 10, .inl (cs 0, 9, .inl (rows 10))), (a_t_imageZero, .inr (6, [.ref a_t_imageZero_rows, .int kn0])), (a_t_imageZero_rows, .inl (cs 3, 11, .inr (.inr (.inr (.inr (gO r_t_imageZero_rows)))))), (r_t_imageZero_rows 0, .inl (cs 0, 9, .inl (rows0 0))), (r_t_imageZero_rows 1, .inl (cs 0, 9, .inl (rows0 1))), (r_t_imageZero_rows 2, .inl (cs 0, 9, .inl (rows0 2))), (r_t_imageZero_rows 3, .inl (cs 0, 9, .inl (rows0 3))), (r_t_imageZero_rows 4, .inl (cs 0, 9, .inl (rows0 4))), (r_t_imageZero_rows 5, .inl (cs 0, 9, .inl (rows0 5))), (r_t_imageZero_rows 6, .inl (cs 0, 9, .inl (rows0 6))), (r_t_imageZero_rows 7, .inl (cs 0, 9, .inl (rows0 7))), (r_t_imageZero_rows 8, .inl (cs 0, 9, .inl (rows0 8))), (r_t_imageZero_rows 9, .inl (cs 0, 9, .inl (rows0 9))), (r_t_imageZero_rows 10, .inl (cs 0, 9, .inl (rows0 10))), (a_t_imageOne, .inr (6, [.ref a_t_imageOne_rows, .int kn1])), (a_t_imageOne_rows, .inl (cs 3, 11, .inr (.inr (.inr (.inr (gO r_t_imageOne_rows)))))), (r_t_imageOne_rows 0, .inl (cs 0, 9, .inl (rows1 0))), (r_t_imageOne_rows 1, .inl (cs 0, 9, .inl (rows1 1))), (r_t_imageOne_rows 2, .inl (cs 0, 9, .inl (rows1 2))), (r_t_imageOne_rows 3, .inl (cs 0, 9, .inl (rows1 3))), (r_t_imageOne_rows 4, .inl (cs 0, 9, .inl (rows1 4))), (r_t_imageOne_rows 5, .inl (cs 0, 9, .inl (rows1 5))), (r_t_imageOne_rows 6, .inl (cs 0, 9, .inl (rows1 6))), (r_t_imageOne_rows 7, .inl (cs 0, 9, .inl (rows1 7))), (r_t_imageOne_rows 8, .inl (cs 0, 9, .inl (rows1 8))), (r_t_imageOne_rows 9, .inl (cs 0, 9, .inl (rows1 9))), (r_t_imageOne_rows 10, .inl (cs 0, 9, .inl (rows1 10))), (a_t_rounds, .inr (5, [.ref a_t_laws, .int obk, .int oco, .int oen, .int ogo])), (a_t_ways, .inr (7, [.ref a_t_laws, .ref a_t_ways_distance, .ref a_t_ways_before, .ref a_t_ways_lastScribe, .ref a_t_ways_queue, .int wqd])), (a_t_ways_distance, .inl (cs 0, 625, .inl wdi)), (a_t_ways_before, .inl (cs 0, 625, .inl wbe)), (a_t_ways_lastScribe, .inl (cs 0, 625, .inl wls)), (a_t_ways_queue, .inl (cs 0, 625, .inl wqu)), (a_t_margins, .inr (2, [.ref a_t_margins_of, .ref a_t_margins_said, .int msz])), (a_t_margins_of, .inl (cs 0, 6, .inl fC)), (a_t_margins_said, .inl (cs 0, 6, .inl gC)), (a_t_marks, .inr (3, [.int yun, .int ytu, .int ybe, .int yti, .int yco, .long tr])), (m_t, .inr (9, [.long mtr, .ref m_t_text, .int mty, .ref m_t_opinions, .ref m_t_lines, .ref m_t_draftBook, .ref m_t_scribes, .ref m_t_turn, .ref m_t_bent, .ref m_t_need, .int mnt, .int mat, .int mst, .int mso, .int mva, .int mfa, .ref m_t_now, .ref m_t_isKept, .int mtg, .int mwe, .int men, .int mha, .ref m_t_far, .ref m_t_marginOf, .ref m_t_marginSays, .int mma])), (m_t_text, .inl (cs 1, 120, .inl text)), (m_t_opinions, .inl (cs 0, 2, .inl op)), (m_t_lines, .inl (cs 0, 2, .inl li)), (m_t_draftBook, .inl (cs 0, 4, .inl mdb)), (m_t_scribes, .inl (cs 0, 2, .inl sc)), (m_t_turn, .inl (cs 0, 12, .inl tu)), (m_t_bent, .inl (cs 0, 12, .inl be)), (m_t_need, .inl (cs 0, 2, .inl ne)), (m_t_now, .inl (cs 0, 300, .inl now)), (m_t_isKept, .inl (cs 2, 2, .inl ik)), (m_t_far, .inl (cs 0, 625, .inl far)), (m_t_marginOf, .inl (cs 0, 6, .inl fM)), (m_t_marginSays, .inl (cs 0, 6, .inl gM))]
def RELS (n L S d len K T q : Nat) (t b tx mo ms : Nat → Nat) (kZ kO kn0 kn1 : Int32) (tuC beC rt made fC gC text op li sc tu be ne now ik fM gM : Nat → Int32) (rows rows0 rows1 : Nat → Nat → Int32) : Prop := (CH n L S d t b tuC beC) ∧ (MH n L S d t b op li sc ne tu be) ∧ (TXC len tx rt) ∧ (TXM len tx text) ∧ (LWT n L S d t b made) ∧ (SD (n ^ L) S 0 K rows now) ∧ (T < n ^ L) ∧ (ik 0 = kZ) ∧ (ik 1 = kO) ∧ (IM (n ^ L) S 100 kZ kn0 rows0 now) ∧ (IM (n ^ L) S 200 kO kn1 rows1 now) ∧ (MG n q mo ms fC gC) ∧ (MG n q mo ms fM gM)
def INV (G : va_G) (cs : Nat → ClassId) (A : Nat → Prop) (H0 : Heap) (a_t a_t_reader a_t_laws a_t_standing a_t_imageZero a_t_imageOne a_t_rounds a_t_ways a_t_margins a_t_marks a_t_reader_text a_t_laws_made a_t_standing_rows a_t_imageZero_rows a_t_imageOne_rows a_t_ways_distance a_t_ways_before a_t_ways_lastScribe a_t_ways_queue a_t_margins_of a_t_margins_said m_t m_t_text m_t_opinions m_t_lines m_t_draftBook m_t_scribes m_t_turn m_t_bent m_t_need m_t_now m_t_isKept m_t_far m_t_marginOf m_t_marginSays : Nat) (r_t_standing_rows r_t_imageZero_rows r_t_imageOne_rows : Nat → Nat) (H : Heap) (locs : List Loc) : Prop := ∀ Z : Prop, (∀ (a_t_house a_t_house_turn a_t_house_bent a_t_draft a_t_draft_turn a_t_draft_bent n L S d len K T q : Nat) (t b tx mo ms : Nat → Nat) (kZ kO hto dop dli dbo dto dsc dne rnx rpl rso rva rbt rnt kn0 kn1 obk oco oen ogo wqd yun ytu ybe yti yco mnt mat mst mso mva mfa mwe men mha : Int32) (tuC beC dtu dbe rt made wdi wbe wls wqu fC gC text op li mdb sc tu be ne now ik far fM gM : Nat → Int32) (rows rows0 rows1 : Nat → Nat → Int32) (tr : Int64), va_P G vwCl (WL cs a_t a_t_reader a_t_laws a_t_standing a_t_imageZero a_t_imageOne a_t_rounds a_t_ways a_t_margins a_t_marks a_t_reader_text a_t_laws_made a_t_standing_rows a_t_imageZero_rows a_t_imageOne_rows a_t_ways_distance a_t_ways_before a_t_ways_lastScribe a_t_ways_queue a_t_margins_of a_t_margins_said m_t m_t_text m_t_opinions m_t_lines m_t_draftBook m_t_scribes m_t_turn m_t_bent m_t_need m_t_now m_t_isKept m_t_far m_t_marginOf m_t_marginSays r_t_standing_rows r_t_imageZero_rows r_t_imageOne_rows a_t_house a_t_house_turn a_t_house_bent a_t_draft a_t_draft_turn a_t_draft_bent kZ kO (nI T) (nI n) (nI L) (nI (n ^ L)) hto (nI S) (nI d) dop dli dbo dto dsc dne (nI len) rnx rpl rso rva rbt rnt (nI S) (nI (n ^ L)) (nI K) kn0 kn1 obk oco oen ogo wqd (nI q) yun ytu ybe yti yco (nI len) mnt mat mst mso mva mfa (nI T) mwe men mha (nI q) tuC beC dtu dbe rt made wdi wbe wls wqu fC gC text op li mdb sc tu be ne now ik far fM gM rows rows0 rows1 tr tr) H → va_D A (WL cs a_t a_t_reader a_t_laws a_t_standing a_t_imageZero a_t_imageOne a_t_rounds a_t_ways a_t_margins a_t_marks a_t_reader_text a_t_laws_made a_t_standing_rows a_t_imageZero_rows a_t_imageOne_rows a_t_ways_distance a_t_ways_before a_t_ways_lastScribe a_t_ways_queue a_t_margins_of a_t_margins_said m_t m_t_text m_t_opinions m_t_lines m_t_draftBook m_t_scribes m_t_turn m_t_bent m_t_need m_t_now m_t_isKept m_t_far m_t_marginOf m_t_marginSays r_t_standing_rows r_t_imageZero_rows r_t_imageOne_rows a_t_house a_t_house_turn a_t_house_bent a_t_draft a_t_draft_turn a_t_draft_bent kZ kO (nI T) (nI n) (nI L) (nI (n ^ L)) hto (nI S) (nI d) dop dli dbo dto dsc dne (nI len) rnx rpl rso rva rbt rnt (nI S) (nI (n ^ L)) (nI K) kn0 kn1 obk oco oen ogo wqd (nI q) yun ytu ybe yti yco (nI len) mnt mat mst mso mva mfa (nI T) mwe men mha (nI q) tuC beC dtu dbe rt made wdi wbe wls wqu fC gC text op li mdb sc tu be ne now ik far fM gM rows rows0 rows1 tr tr) → va_S A H0 H locs → (RELS n L S d len K T q t b tx mo ms kZ kO kn0 kn1 tuC beC rt made fC gC text op li sc tu be ne now ik fM gM rows rows0 rows1) → Z) → Z
/-- what stands during the whole law -/
def LC (p : Program) (s : State) (m : MethodId) (c : Code) (sb sL : Nat) (xs : Nat → Int32) (G : va_G) (cs : Nat → ClassId) : Prop := p.tables.exec = Jvm.exec ∧ c.code = cL_law ∧ c.maxLocals = 4 ∧ s.vm.findClass RL = some m.cls ∧ (∀ w ∈ GW, w.before #[Value.ref sb] s = true) ∧ va_X sb sL xs s s.heap ∧ sb < s.heap.size ∧ KT G cs s ∧ NW s ∧ ST (fun q : Nat => s.heap.size ≤ q) s s.heap
section KLONG
variable {p : Program} {l : Launch} {e : Env} {R : Room} {s : State} {m : MethodId} {args : Array Value} {below : List Frame} {meth : Method} {c : Code} {H : Heap} {locs : List Loc} {cells slots : Nat} {Q : State → Prop} {G : va_G} {cs : Nat → ClassId}
variable {y : MethodName} {bytes cc : ByteArray} {maxL nL n index pc : Nat} {ret : Option FieldType} {rm : Room} {own C : String} {b : Addr} {As rest st : List Value} {ls : Array Slot} {WS WC : va_W} {r0 : Int64}
theorem kl_V (S : CFix p m c cc nL s args own) (hM : Met l y (.code y bytes maxL ret :: GW) rm (PcR G cs (.ref b :: As) WC) (vp_Sl (fun r => r = r0)) 0 0 (fun _ => False)) (ml : Cond.methodLink own index y ∈ GW) (mi : MI y C bytes maxL ret n) (hR : RmOk R rm maxL cells slots)
    (hP : va_P G vwCl WS H) (hK : KT G cs s) (hN : NW s) (q0 : Nat) {ci N : Nat} {T : u_T} {fs : List Value} (he : WS[q0]? = some (b, .inr (ci, fs))) (hcl : vwCl[ci]? = some (C, T, N)) (is : List Nat) (hs : is.map (fun i => WS[i]?) = WC.map some)
    (hn : As.length = n) (hsize : ls.size = nL) (hst : st = As.reverse ++ .ref b :: rest) (hW : (rest.map fun v => v.category).sum ≤ 8) (hdg : decode cc pc = .ok (.invokevirtual index, 3))
    (k : W p l e R s m args below meth c H locs cells slots Q (F0 m (pc + 3) ls (.long r0 :: rest))) : W p l e R s m args below meth c H locs cells slots Q (F0 m pc ls st) := by
  subst hst
  exact vp_callSl (W.runV S hM (cwV' S.2.2.2.2 ml mi hR) ⟨PcR_blind, va_recv hK hP hcl he, fun U hU hWm => ⟨rfl, by rw [hU]; exact hP.subM is hs, va_K.moved hWm.alike hK, NW.warm hWm hN⟩⟩ rfl hn hsize rfl (lv_room hW) hdg ⟨hR.2.2.2.2.1, hR.2.2.2.2.2⟩) (fun r hr => by subst hr; exact k)
end KLONG
theorem lg_cmp_self (x : Int64) : lg_cmp x x = 0 := by
  have h : ¬ x < x := fun h => by rw [Int64.lt_iff_toInt_lt] at h; omega
  simp [lg_cmp, h]
/-- two worlds with the same addresses that differ at some places alone -/
def agr (is : List Nat) : Nat → va_W → va_W → Prop
  | _, [], [] => True
  | k, a :: u, b :: v => (a.1 = b.1 ∧ (is.contains k = true ∨ a = b)) ∧ agr is (k + 1) u v
  | _, _, _ => False
theorem agr_get {is : List Nat} : ∀ {u v : va_W} {k : Nat}, agr is k u v → ∀ (j : Nat) (q : Nat × va_E), v[j]? = some q → ∃ q0, u[j]? = some q0 ∧ q0.1 = q.1 ∧ (is.contains (k + j) = true ∨ q0 = q)
  | [], [], _, _, j, q, h => by simp at h
  | [], _ :: _, _, h, _, _, _ => h.elim
  | _ :: _, [], _, h, _, _, _ => h.elim
  | a :: u, b :: v, k, h, 0, q, hq => by
    have e : b = q := by simpa using hq
    subst e
    exact ⟨a, rfl, h.1.1, h.1.2⟩
  | a :: u, b :: v, k, h, j + 1, q, hq => by
    have hq' : v[j]? = some q := by simpa using hq
    obtain ⟨q0, e1, e2, e3⟩ := agr_get h.2 j q hq'
    exact ⟨q0, by simpa using e1, e2, by rw [show k + (j + 1) = k + 1 + j by omega]; exact e3⟩
theorem agr_join {G : va_G} {A : Nat → Prop} {WS WC W1 W2 : va_W} {isC : List Nat} {H H1 : Heap} (hP : va_P G vwCl WS H) (hD : va_D A WS) (h1 : isC.map (fun i => WS[i]?) = WC.map some) (h2 : isC.map (fun i => W2[i]?) = W1.map some) (ha : agr isC 0 WS W2) (hk : ∀ q : Nat, q < H.size → ¬ va_A WC H.size q → H1[q]? = H[q]?) (hP1 : va_P G vwCl W1 H1) : va_P G vwCl W2 H1 ∧ va_D A W2 := by
  refine ⟨fun k q hq => ?_, fun i j p q hp hq e => ?_, fun k q hq => ?_⟩
  · obtain ⟨q0, e1, e2, e3⟩ := agr_get ha k q hq
    rw [Nat.zero_add] at e3
    by_cases c : isC.contains k = true
    · have hmem : k ∈ isC := by simpa using c
      obtain ⟨j, hj⟩ := List.mem_iff_getElem?.mp hmem
      have h3 : (W1.map some)[j]? = some (W2[k]?) := by rw [← h2, List.getElem?_map, hj]; rfl
      rw [List.getElem?_map, hq] at h3
      cases hw : W1[j]? with
      | none => rw [hw] at h3; cases h3
      | some q1 =>
        rw [hw] at h3
        have e9 : q1 = q := by simpa using h3
        subst e9
        exact hP1 j q1 hw
    · have e4 : q0 = q := e3.resolve_left c
      subst e4
      have hl := (hP k q0 e1).lt
      refine (hP k q0 e1).kept (hk q0.1 hl (fun h => ?_))
      rcases h with ⟨k2, e, h⟩ | h
      · have h4 : (isC.map (fun i => WS[i]?))[k2]? = some (some (q0.1, e)) := by rw [h1, List.getElem?_map, h]; rfl
        rw [List.getElem?_map] at h4
        cases hi : isC[k2]? with
        | none => rw [hi] at h4; cases h4
        | some i =>
          rw [hi] at h4
          have h5 : WS[i]? = some (q0.1, e) := by simpa using h4
          have h6 := hD.1 k i q0 (q0.1, e) e1 h5 rfl
          subst h6
          exact c (by simpa using List.mem_of_getElem? hi)
      · omega
  · obtain ⟨p0, a1, a2, -⟩ := agr_get ha i p hp
    obtain ⟨q0, b1, b2, -⟩ := agr_get ha j q hq
    exact hD.1 i j p0 q0 a1 b1 (by rw [a2, b2]; exact e)
  · obtain ⟨q0, a1, a2, -⟩ := agr_get ha k q hq
    rw [← a2]
    exact hD.2 k q0 a1
section KX
variable {p : Program} {l : Launch} {e : Env} {R : Room} {s : State} {m : MethodId} {args : Array Value} {below : List Frame} {meth : Method} {c : Code} {H H0 : Heap} {locs : List Loc} {cells slots : Nat} {Q : State → Prop} {G : va_G} {pc : Nat} {As rest st : List Value} {ls : Array Slot} {WS WC : va_W} {r0 : Int32} {A : Nat → Prop}
theorem kx_i {W1 W2 : va_W} (hr : va_Run p l e R s m args below meth c H locs cells slots 0 0 (F0 m pc ls st) rest (QcI G (va_A WC H.size) W1 r0 As.toArray) (va_A WC H.size)) (hP : va_P G vwCl WS H) (hD : va_D A WS) (hS : va_S A H0 H locs) (hA : ∀ q, H0.size ≤ q → A q) (isC : List Nat) (h1 : isC.map (fun i => WS[i]?) = WC.map some) (h2 : isC.map (fun i => W2[i]?) = W1.map some) (ha : agr isC 0 WS W2)
    (k : ∀ (H1 : Heap) (locs1 : List Loc), va_P G vwCl W2 H1 → va_D A W2 → va_S A H0 H1 locs1 → W p l e R s m args below meth c H1 locs1 cells slots Q (F0 m (pc + 3) ls (.int r0 :: rest))) : W p l e R s m args below meth c H locs cells slots Q (F0 m pc ls st) := by
  have hF := va_free (wc := WC) hD hS hA isC h1
  refine va_calli hr hS (fun q _ h => hF q h) hF (fun r u t H1 locs1 ht hvm hw hB hz1 hk1 hS1 => ?_)
  obtain ⟨hP1, hD1⟩ := hB
  rw [ht] at hP1
  obtain ⟨jP, jD⟩ := agr_join hP hD h1 h2 ha hk1 hP1
  have e9 : r = r0 := hw
  subst e9
  exact k H1 locs1 jP jD hS1
end KX
theorem step_way {n L S d K T : Nat} {t b : Nat → Nat} {op li sc ne tu be now made : Nat → Int32} {rows : Nat → Nat → Int32} (hM : MH n L S d t b op li sc ne tu be) (hm : LWT n L S d t b made) (hs : SD (n ^ L) S 0 K rows now) (hT : T < n ^ L) (far dist0 bef0 lst0 que0 : Nat → Int32) (qd0 p : Int32) : ∃ r x1 x2 x3 x4 x5 far', f_X8_way (nI T) (nI S) (nI K) rows qd0 (nI S) (nI (n ^ L)) made dist0 bef0 lst0 que0 p = some (r, x1, x2, x3, x4, x5) ∧ f_X9_way (nI T) op li sc tu be ne now far p = some (r, far') := by
  obtain ⟨⟨g1, g2, g3, g4, g5, g6, g7⟩, h1, h2, h3, h4, h5⟩ := id hM
  obtain ⟨hK, k, c, r, k1, c1, r1, e1, e2, e3, e4, e5, e6, e7, e8⟩ := sd_get hs
  exact way_ok (K := K) hM hm (wok_ok g4 r1) (mbought_ok g4 r1 h3 e6) (bought_ok g4 hK r1 e5) (by rw [bookAt hK, e1]) e2 k1 hT far dist0 bef0 lst0 que0 qd0 p
