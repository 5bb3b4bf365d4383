/-! ===== loops and branches of the pure functions ===== -/
/-- a loop of at most n turns: .inl goes on, .inr ends it -/
def lpF {σ T : Type} (B : σ → Option (σ ⊕ T)) : Nat → σ → Option T
  | 0, _ => none
  | n + 1, s => (B s).bind (fun y => Sum.elim (lpF B n) some y)
/-- more turns than any loop of the class or of the reference takes -/
def FU : Nat := 30000
theorem bnd {α β : Type} {o : Option α} {f : α → Option β} {y : β} (h : o.bind f = some y) : ∃ r, o = some r ∧ f r = some y := by
  cases o with
  | none => cases h
  | some r => exact ⟨r, rfl, h⟩
theorem lp_ind {σ T : Type} {B : σ → Option (σ ⊕ T)} {Wh : σ → Prop} {K : T → Prop} (hstep : ∀ (z : σ) (y : σ ⊕ T), B z = some y → Sum.elim Wh K y → Wh z) : ∀ (n : Nat) (z : σ) (x : T), lpF B n z = some x → K x → Wh z := by
  intro n
  induction n with
  | zero => intro z x h; cases h
  | succ n ih =>
    intro z x h hK
    obtain ⟨y, h1, h2⟩ := bnd h
    refine hstep z y h1 ?_
    cases y with
    | inl z' => exact ih z' x h2 hK
    | inr t =>
      have h3 : some t = some x := h2
      cases h3
      exact hK
theorem ifP {c : Prop} [Decidable c] {α : Type} {a b x : α} (hc : c) (h : (if c then a else b) = x) : a = x := (if_pos hc).symm.trans h
theorem ifN {c : Prop} [Decidable c] {α : Type} {a b x : α} (hc : ¬ c) (h : (if c then a else b) = x) : b = x := (if_neg hc).symm.trans h
theorem ifS {c : Prop} [Decidable c] {α : Type} {a : Option α} {x : α} (h : (if c then none else a) = some x) : ¬ c ∧ a = some x := by
  by_cases hc : c
  · rw [if_pos hc] at h; cases h
  · rw [if_neg hc] at h; exact ⟨hc, h⟩
theorem leafK {T : Type} {a y : T} {K : T → Prop} (hB : some a = some y) (hK : K y) : K a := by cases hB; exact hK
/-- the answer that is due -/
def KEnd {T : Type} (R0 y : T) : Prop := y = R0
theorem elimR {α β : Type} {f : α → Prop} {g : β → Prop} {t : β} (h : Sum.elim f g (.inr t)) : g t := h
theorem elimL {α β : Type} {f : α → Prop} {g : β → Prop} {t : α} (h : Sum.elim f g (.inl t)) : f t := h
theorem vinC {i : Int32} {n : Nat} (h : decide (i < 0 ∨ n ≤ i.toNatClampNeg) = false) : vp_in i n := of_decide_eq_false h
/-! ===== the words of a nest, the classes of arrays ===== -/
def isNest : Cond → Bool
  | .fieldLinkNest _ _ _ _ _ _ => true
  | .methodLinkNest _ _ _ _ => true
  | _ => false
def NW (U : State) : Prop := ∀ w ∈ lw_tbl, isNest w = true → va_Nw w U
theorem NW.warm {s U : State} (hW : s.WarmedH U.vm) (h : NW s) : NW U := by
  intro w hw hn
  have h1 := h w hw hn
  cases w <;> first | exact va_Nw.warmF hW h1 | exact va_Nw.warmM hW h1 | (cases hn)
theorem NW.same {u U : State} (e : u.vm = U.vm) (h : NW u) : NW U := by
  intro w hw hn
  have h1 := h w hw hn
  cases w <;> first | exact va_Nw.same rfl e h1 | (cases hn)
theorem NW.of {A : Array Value} {s : State} (h : ∀ w ∈ lw_tbl, w.before A s = true) : NW s := by
  intro w hw hn
  have h1 := h w hw
  cases w <;> first | exact va_Nw.of rfl h1 | (cases hn)
/-- the classes of int[], byte[], boolean[], int[][] -/
def TYS (cs : Nat → ClassId) : List (ClassId × FieldType) := [(cs 0, .int), (cs 1, .byte), (cs 2, .boolean), (cs 3, .array .int)]
abbrev KT (G : va_G) (cs : Nat → ClassId) (U : State) : Prop := va_K G vwCl (TYS cs) U
/-- the start of a method that only reads -/
def PcR (G : va_G) (cs : Nat → ClassId) (av : List Value) (ws : va_W) : Array Value → State → Prop := va_Pc av (fun U => va_P G vwCl ws U.heap ∧ KT G cs U ∧ NW U)
/-- the start of a method that writes -/
def PcW (G : va_G) (cs : Nat → ClassId) (av : List Value) (ws : va_W) (sz : Nat) : Array Value → State → Prop := va_Pc av (fun U => U.heap.size = sz ∧ va_P G vwCl ws U.heap ∧ va_D (fun _ => True) ws ∧ KT G cs U ∧ NW U)
theorem PcR_blind {G : va_G} {cs : Nat → ClassId} {av : List Value} {ws : va_W} : FrameBlind (PcR G cs av ws) := fun a U g mk q => by
  obtain ⟨q0, qP, qK, qN⟩ := q
  exact ⟨q0, qP, va_K.moved (u := U) (U := U.calling g mk a) (Vm.Alike.refl U.vm) qK, NW.same (u := U) (U := U.calling g mk a) rfl qN⟩
theorem PcW_blind {G : va_G} {cs : Nat → ClassId} {av : List Value} {ws : va_W} {sz : Nat} : FrameBlind (PcW G cs av ws sz) := fun a U g mk q => by
  obtain ⟨q0, qz, qP, qD, qK, qN⟩ := q
  exact ⟨q0, qz, qP, qD, va_K.moved (u := U) (U := U.calling g mk a) (Vm.Alike.refl U.vm) qK, NW.same (u := U) (U := U.calling g mk a) rfl qN⟩
/-- the end of a method that writes: what it answers, and its world behind it -/
def QcI (G : va_G) (A : Nat → Prop) (w1 : va_W) (r0 : Int32) : Array Value → State → Outcome → State → Prop := va_Qi (fun r (_ : Unit) => r = r0) (fun _ t => va_P G vwCl w1 t.heap ∧ va_D A w1) A
def QcV (G : va_G) (A : Nat → Prop) (w1 : va_W) : Array Value → State → Outcome → State → Prop := va_Qv (fun (_ : Unit) => True) (fun _ t => va_P G vwCl w1 t.heap ∧ va_D A w1) A
theorem va_P.subM {D : va_G} {cl : List vw_C} {ws wc : va_W} {H : Heap} (h : va_P D cl ws H) (is : List Nat) (hs : is.map (fun i => ws[i]?) = wc.map some) : va_P D cl wc H := by
  intro k q hk
  have h1 : (is.map (fun i => ws[i]?))[k]? = some (some q) := by rw [hs, List.getElem?_map, hk]; rfl
  rw [List.getElem?_map] at h1
  cases hi : is[k]? with
  | none => rw [hi] at h1; cases h1
  | some i => rw [hi] at h1; exact h i q (Option.some.inj h1)
theorem filt_map {ws : va_W} : ∀ (is : List Nat), is.all (fun i => decide (i < ws.length)) = true → is.map (fun i => ws[i]?) = (is.filterMap (fun i => ws[i]?)).map some
  | [], _ => rfl
  | i :: l, h => by
    simp only [List.all_cons, Bool.and_eq_true, decide_eq_true_eq] at h
    have e : ws[i]? = some ws[i] := List.getElem?_eq_getElem h.1
    rw [List.map_cons, List.filterMap_cons, e, filt_map l h.2]
    rfl
/-! ===== what the tables say of a method that is called ===== -/
def MI (y : MethodName) (C : String) (bytes : ByteArray) (maxL : Nat) (ret : Option FieldType) (n : Nat) : Prop :=
  Cond.instanceMethod y ∈ GW ∧ Cond.selects C y y ∈ GW ∧ Cond.initialized C ∈ GW ∧ Cond.code y bytes maxL ret ∈ GW ∧ (y.cls = C ∧ y.cls ≠ "java/lang/invoke/MethodHandle" ∧ y.cls ≠ "java/lang/invoke/VarHandle" ∧ (parseMethodDescriptor y.desc).map (fun d => d.parameters.length) = some n)
def MS (y : MethodName) (bytes : ByteArray) (maxL : Nat) (ret : Option FieldType) (n : Nat) : Prop :=
  Cond.static y ∈ GW ∧ Cond.initialized y.cls ∈ GW ∧ Cond.code y bytes maxL ret ∈ GW ∧ (y.cls ≠ "java/lang/invoke/MethodHandle" ∧ y.cls ≠ "java/lang/invoke/VarHandle" ∧ (parseMethodDescriptor y.desc).map (fun d => d.parameters.length) = some n)
theorem goodC {c : Cond} (h : c ∈ GW) : GoodIn GW (c :: GW) := fun w hw => by
  rcases List.mem_cons.mp hw with e | e
  · rw [e]; exact ⟨h, GW_good h⟩
  · exact ⟨e, GW_good e⟩
theorem goodV {own C : String} {idx maxL : Nat} {y : MethodName} {bytes : ByteArray} {ret : Option FieldType} {n : Nat} (h1 : Cond.methodLink own idx y ∈ GW) (mi : MI y C bytes maxL ret n) : GoodIn GW (wsV own idx C y (.code y bytes maxL ret :: GW)) := fun w hw => by
  obtain ⟨h2, h3, h4, h5, -⟩ := mi
  rcases List.mem_append.mp hw with e | e
  · simp only [List.mem_cons, List.not_mem_nil, or_false] at e
    rcases e with rfl | rfl | rfl | rfl
    · exact ⟨h1, GW_good h1⟩
    · exact ⟨h2, GW_good h2⟩
    · exact ⟨h3, GW_good h3⟩
    · exact ⟨h4, GW_good h4⟩
  · exact goodC h5 w e
theorem goodS {own : String} {idx maxL : Nat} {y : MethodName} {bytes : ByteArray} {ret : Option FieldType} {n : Nat} (h1 : Cond.methodLink own idx y ∈ GW) (mi : MS y bytes maxL ret n) : GoodIn GW (va_wsS own idx y (.code y bytes maxL ret :: GW)) := fun w hw => by
  obtain ⟨h2, h3, h5, -⟩ := mi
  rcases List.mem_append.mp hw with e | e
  · simp only [List.mem_cons, List.not_mem_nil, or_false] at e
    rcases e with rfl | rfl | rfl
    · exact ⟨h1, GW_good h1⟩
    · exact ⟨h2, GW_good h2⟩
    · exact ⟨h3, GW_good h3⟩
  · exact goodC h5 w e
section KCALL
variable {p : Program} {l : Launch} {e : Env} {R : Room} {s : State} {m : MethodId} {args : Array Value} {below : List Frame} {meth : Method} {c : Code} {H H0 : Heap} {locs : List Loc} {cells slots : Nat} {Q : State → Prop} {G : va_G} {cs : Nat → ClassId}
variable {y : MethodName} {bytes cc : ByteArray} {maxL nL n index pc : Nat} {ret : Option FieldType} {rm : Room} {own C host : String} {b : Addr} {As rest st : List Value} {ls : Array Slot} {WS WC : va_W} {r0 : Int32} {A : Nat → Prop}
abbrev RmOk (R rm : Room) (maxL cells slots : Nat) : Prop := rm.cells = 0 ∧ rm.slots = 0 ∧ rm.frames + 1 ≤ R.frames ∧ 8 + (maxL + 11) + rm.locals ≤ R.locals ∧ cells ≤ R.cells ∧ slots ≤ R.slots
theorem cwV' (hg : ∀ w ∈ GW, w.before args s = true) (ml : Cond.methodLink own index y ∈ GW) (mi : MI y C bytes maxL ret n) (hR : RmOk R rm maxL cells slots) : CallW R s args own C index y bytes maxL ret (.code y bytes maxL ret :: GW) rm 0 0 n :=
  cwV n hg (goodV ml mi) rfl hR.1 hR.2.1 mi.2.2.2.2 ⟨hR.2.2.1, hR.2.2.2.1⟩
theorem cwVN' (hg : ∀ w ∈ GW, w.before args s = true) (hN : NW s) (ml : Cond.methodLinkNest own index y host ∈ lw_tbl) (mi : MI y C bytes maxL ret n) (hR : RmOk R rm maxL cells slots) : va_CN R s args own index y host bytes maxL ret (.code y bytes maxL ret :: GW) rm 0 0 n ∧ (Cond.instanceMethod y).before args s = true ∧ (Cond.selects C y y).before args s = true := by
  obtain ⟨h2, h3, h4, h5, h6, h7, h8, h9⟩ := mi
  exact ⟨va_cnB n hg (goodC h5) rfl hR.1 hR.2.1 (hN _ ml rfl) (by rw [h6]; exact hg _ h4) ⟨h7, h8, h9⟩ ⟨hR.2.2.1, hR.2.2.2.1⟩, hg _ h2, hg _ h3⟩
theorem cwS' (hg : ∀ w ∈ GW, w.before args s = true) (ml : Cond.methodLink own index y ∈ GW) (mi : MS y bytes maxL ret n) (hR : RmOk R rm maxL cells slots) : CallB R s args own index y bytes maxL ret (.code y bytes maxL ret :: GW) rm 0 0 n ∧ (Cond.static y).before args s = true :=
  va_cwS n hg (goodS ml mi) rfl hR.1 hR.2.1 mi.2.2.2 ⟨hR.2.2.1, hR.2.2.2.1⟩
theorem cwSN' (hg : ∀ w ∈ GW, w.before args s = true) (hN : NW s) (ml : Cond.methodLinkNest own index y host ∈ lw_tbl) (mi : MS y bytes maxL ret n) (hR : RmOk R rm maxL cells slots) : va_CN R s args own index y host bytes maxL ret (.code y bytes maxL ret :: GW) rm 0 0 n ∧ (Cond.static y).before args s = true ∧ True := by
  obtain ⟨h2, h4, h5, h7, h8, h9⟩ := mi
  exact ⟨va_cnB n hg (goodC h5) rfl hR.1 hR.2.1 (hN _ ml rfl) (hg _ h4) ⟨h7, h8, h9⟩ ⟨hR.2.2.1, hR.2.2.2.1⟩, hg _ h2, trivial⟩
abbrev CFix (p : Program) (m : MethodId) (c : Code) (cc : ByteArray) (nL : Nat) (s : State) (args : Array Value) (own : String) : Prop := CallFix p m c cc nL s args GW own
/-- reading calls -/
theorem kr_V (S : CFix p m c cc nL s args own) (hM : Met l y (.code y bytes maxL ret :: GW) rm (PcR G cs (.ref b :: As) WC) (vp_Si (fun r => r = r0)) 0 0 (fun _ => False)) (ml : Cond.methodLink own index y ∈ GW) (mi : MI y C bytes maxL ret n) (hR : RmOk R rm maxL cells slots)
    (hP : va_P G vwCl WS H) (hK : KT G cs s) (hN : NW s) (q0 : Nat) {ci N : Nat} {T : u_T} {fs : List Value} (he : WS[q0]? = some (b, .inr (ci, fs))) (hcl : vwCl[ci]? = some (C, T, N)) (is : List Nat) (hs : is.map (fun i => WS[i]?) = WC.map some)
    (hn : As.length = n) (hsize : ls.size = nL) (hst : st = As.reverse ++ .ref b :: rest) (hW : (rest.map fun v => v.category).sum ≤ 8) (hdg : decode cc pc = .ok (.invokevirtual index, 3))
    (k : W p l e R s m args below meth c H locs cells slots Q (F0 m (pc + 3) ls (.int r0 :: rest))) : W p l e R s m args below meth c H locs cells slots Q (F0 m pc ls st) := by
  subst hst
  exact vp_callSi (W.runV S hM (cwV' S.2.2.2.2 ml mi hR) ⟨PcR_blind, va_recv hK hP hcl he, fun U hU hWm => ⟨rfl, by rw [hU]; exact hP.subM is hs, va_K.moved hWm.alike hK, NW.warm hWm hN⟩⟩ rfl hn hsize rfl (lv_room hW) hdg ⟨hR.2.2.2.2.1, hR.2.2.2.2.2⟩) (fun r hr => by subst hr; exact k)
theorem kr_VN (S : CFix p m c cc nL s args own) (hM : Met l y (.code y bytes maxL ret :: GW) rm (PcR G cs (.ref b :: As) WC) (vp_Si (fun r => r = r0)) 0 0 (fun _ => False)) (ml : Cond.methodLinkNest own index y host ∈ lw_tbl) (mi : MI y C bytes maxL ret n) (hR : RmOk R rm maxL cells slots)
    (hP : va_P G vwCl WS H) (hK : KT G cs s) (hN : NW s) (q0 : Nat) {ci N : Nat} {T : u_T} {fs : List Value} (he : WS[q0]? = some (b, .inr (ci, fs))) (hcl : vwCl[ci]? = some (C, T, N)) (is : List Nat) (hs : is.map (fun i => WS[i]?) = WC.map some)
    (hn : As.length = n) (hsize : ls.size = nL) (hst : st = As.reverse ++ .ref b :: rest) (hW : (rest.map fun v => v.category).sum ≤ 8) (hdg : decode cc pc = .ok (.invokevirtual index, 3))
    (k : W p l e R s m args below meth c H locs cells slots Q (F0 m (pc + 3) ls (.int r0 :: rest))) : W p l e R s m args below meth c H locs cells slots Q (F0 m pc ls st) := by
  subst hst
  exact vp_callSi (va_Run.run (va_runVN S hM (cwVN' S.2.2.2.2 hN ml mi hR) ⟨PcR_blind, va_recv hK hP hcl he, fun U hU hWm => ⟨rfl, by rw [hU]; exact hP.subM is hs, va_K.moved hWm.alike hK, NW.warm hWm hN⟩⟩ rfl hn hsize rfl (lv_room hW) hdg ⟨hR.2.2.2.2.1, hR.2.2.2.2.2⟩)) (fun r hr => by subst hr; exact k)
theorem kr_S (S : CFix p m c cc nL s args own) (hM : Met l y (.code y bytes maxL ret :: GW) rm (PcR G cs As WC) (vp_Si (fun r => r = r0)) 0 0 (fun _ => False)) (ml : Cond.methodLink own index y ∈ GW) (mi : MS y bytes maxL ret n) (hR : RmOk R rm maxL cells slots)
    (hP : va_P G vwCl WS H) (hK : KT G cs s) (hN : NW s) (is : List Nat) (hs : is.map (fun i => WS[i]?) = WC.map some)
    (hn : As.length = n) (hsize : ls.size = nL) (hst : st = As.reverse ++ rest) (hW : (rest.map fun v => v.category).sum ≤ 8) (hdg : decode cc pc = .ok (.invokestatic index, 3))
    (k : W p l e R s m args below meth c H locs cells slots Q (F0 m (pc + 3) ls (.int r0 :: rest))) : W p l e R s m args below meth c H locs cells slots Q (F0 m pc ls st) := by
  subst hst
  exact vp_callSi (W.runS S hM (cwS' S.2.2.2.2 ml mi hR) ⟨PcR_blind, fun U hU hWm => ⟨rfl, by rw [hU]; exact hP.subM is hs, va_K.moved hWm.alike hK, NW.warm hWm hN⟩⟩ rfl hn hsize rfl (lv_room hW) hdg ⟨hR.2.2.2.2.1, hR.2.2.2.2.2⟩) (fun r hr => by subst hr; exact k)
theorem kr_SN (S : CFix p m c cc nL s args own) (hM : Met l y (.code y bytes maxL ret :: GW) rm (PcR G cs As WC) (vp_Si (fun r => r = r0)) 0 0 (fun _ => False)) (ml : Cond.methodLinkNest own index y host ∈ lw_tbl) (mi : MS y bytes maxL ret n) (hR : RmOk R rm maxL cells slots)
    (hP : va_P G vwCl WS H) (hK : KT G cs s) (hN : NW s) (is : List Nat) (hs : is.map (fun i => WS[i]?) = WC.map some)
    (hn : As.length = n) (hsize : ls.size = nL) (hst : st = As.reverse ++ rest) (hW : (rest.map fun v => v.category).sum ≤ 8) (hdg : decode cc pc = .ok (.invokestatic index, 3))
    (k : W p l e R s m args below meth c H locs cells slots Q (F0 m (pc + 3) ls (.int r0 :: rest))) : W p l e R s m args below meth c H locs cells slots Q (F0 m pc ls st) := by
  subst hst
  exact vp_callSi (va_Run.run (va_runSN S hM (cwSN' S.2.2.2.2 hN ml mi hR) ⟨PcR_blind, fun U hU hWm => ⟨rfl, by rw [hU]; exact hP.subM is hs, va_K.moved hWm.alike hK, NW.warm hWm hN⟩⟩ rfl hn hsize rfl (lv_room hW) hdg ⟨hR.2.2.2.2.1, hR.2.2.2.2.2⟩)) (fun r hr => by subst hr; exact k)
/-- writing calls: isC the callee's places, isR the others', pe the order behind it -/
abbrev Cut (WS WC W1 W2 : va_W) (isC isR pe : List Nat) : Prop := isC.map (fun i => WS[i]?) = WC.map some ∧ va_nd isC = true ∧ isR.all (fun i => decide (i < WS.length)) = true ∧ va_nd isR = true ∧ isR.all (fun i => decide (i ∉ isC)) = true ∧ pe.map (fun i => (isR.filterMap (fun i => WS[i]?) ++ W1)[i]?) = W2.map some ∧ va_nd pe = true
theorem cut_join {W1 W2 : va_W} {isC isR pe : List Nat} {H1 : Heap} (hP : va_P G vwCl WS H) (hD : va_D A WS) (hc : Cut WS WC W1 W2 isC isR pe) (hk : ∀ q : Nat, q < H.size → ¬ va_A WC H.size q → H1[q]? = H[q]?) (hF : ∀ q, va_A WC H.size q → A q) (hP1 : va_P G vwCl W1 H1) (hD1 : va_D (va_A WC H.size) W1) : va_P G vwCl W2 H1 ∧ va_D A W2 := by
  obtain ⟨h1, h2, h3, h4, h5, h6, h7⟩ := hc
  obtain ⟨jP, jD⟩ := va_join (wr := isR.filterMap (fun i => WS[i]?)) (w1 := W1) hP hD isC isR h1 (filt_map isR h3) h4 (fun i hi => of_decide_eq_true (List.all_eq_true.mp h5 i hi)) hk hF hP1 hD1
  exact ⟨jP.subM pe h6, jD.sub pe h7 h6⟩
theorem kw_i {W1 W2 : va_W} (hr : va_Run p l e R s m args below meth c H locs cells slots 0 0 (F0 m pc ls st) rest (QcI G (va_A WC H.size) W1 r0 As.toArray) (va_A WC H.size)) (hP : va_P G vwCl WS H) (hD : va_D A WS) (hS : va_S A H0 H locs) (hA : ∀ q, H0.size ≤ q → A q) (isC isR pe : List Nat) (hc : Cut WS WC W1 W2 isC isR pe)
    (k : ∀ (H1 : Heap) (locs1 : List Loc), va_P G vwCl W2 H1 → va_D A W2 → va_S A H0 H1 locs1 → W p l e R s m args below meth c H1 locs1 cells slots Q (F0 m (pc + 3) ls (.int r0 :: rest))) : W p l e R s m args below meth c H locs cells slots Q (F0 m pc ls st) := by
  have hF := va_free (wc := WC) hD hS hA isC hc.1
  refine va_calli hr hS (fun q _ h => hF q h) hF (fun r u t H1 locs1 ht hvm hw hB hz1 hk1 hS1 => ?_)
  obtain ⟨hP1, hD1⟩ := hB
  rw [ht] at hP1
  obtain ⟨jP, jD⟩ := cut_join hP hD hc hk1 hF hP1 hD1
  have e : r = r0 := hw
  subst e
  exact k H1 locs1 jP jD hS1
theorem kw_v {W1 W2 : va_W} (hr : va_Run p l e R s m args below meth c H locs cells slots 0 0 (F0 m pc ls st) rest (QcV G (va_A WC H.size) W1 As.toArray) (va_A WC H.size)) (hP : va_P G vwCl WS H) (hD : va_D A WS) (hS : va_S A H0 H locs) (hA : ∀ q, H0.size ≤ q → A q) (isC isR pe : List Nat) (hc : Cut WS WC W1 W2 isC isR pe)
    (k : ∀ (H1 : Heap) (locs1 : List Loc), va_P G vwCl W2 H1 → va_D A W2 → va_S A H0 H1 locs1 → W p l e R s m args below meth c H1 locs1 cells slots Q (F0 m (pc + 3) ls rest)) : W p l e R s m args below meth c H locs cells slots Q (F0 m pc ls st) := by
  have hF := va_free (wc := WC) hD hS hA isC hc.1
  refine va_callv hr hS (fun q _ h => hF q h) hF (fun u t H1 locs1 ht hvm hw hB hz1 hk1 hS1 => ?_)
  obtain ⟨hP1, hD1⟩ := hB
  rw [ht] at hP1
  obtain ⟨jP, jD⟩ := cut_join hP hD hc hk1 hF hP1 hD1
  exact k H1 locs1 jP jD hS1
/-- a writing call as a run: virtual, of its own class or of a nest mate's -/
theorem rw_V {Qc : Array Value → State → Outcome → State → Prop} {fr : Addr → Prop} (S : CFix p m c cc nL s args own) (hM : Met l y (.code y bytes maxL ret :: GW) rm (PcW G cs (.ref b :: As) WC H.size) Qc 0 0 fr) (ml : Cond.methodLink own index y ∈ GW) (mi : MI y C bytes maxL ret n) (hR : RmOk R rm maxL cells slots)
    (hP : va_P G vwCl WS H) (hD : va_D A WS) (hK : KT G cs s) (hN : NW s) (q0 : Nat) {ci N : Nat} {T : u_T} {fs : List Value} (he : WS[q0]? = some (b, .inr (ci, fs))) (hcl : vwCl[ci]? = some (C, T, N)) (is : List Nat) (hs : is.map (fun i => WS[i]?) = WC.map some) (hnd : va_nd is = true)
    (hn : As.length = n) (hsize : ls.size = nL) (hst : st = As.reverse ++ .ref b :: rest) (hW : (rest.map fun v => v.category).sum ≤ 8) (hdg : decode cc pc = .ok (.invokevirtual index, 3)) : va_Run p l e R s m args below meth c H locs cells slots 0 0 (F0 m pc ls st) rest (Qc (Value.ref b :: As).toArray) fr := by
  subst hst
  exact va_runV S hM (cwV' S.2.2.2.2 ml mi hR) ⟨PcW_blind, va_recv hK hP hcl he, fun U hU hWm => ⟨rfl, by rw [hU], by rw [hU]; exact hP.subM is hs, (hD.sub is hnd hs).weaken (fun _ _ _ _ => trivial), va_K.moved hWm.alike hK, NW.warm hWm hN⟩⟩ rfl hn hsize rfl (lv_room hW) hdg ⟨hR.2.2.2.2.1, hR.2.2.2.2.2⟩
theorem rw_VN {Qc : Array Value → State → Outcome → State → Prop} {fr : Addr → Prop} (S : CFix p m c cc nL s args own) (hM : Met l y (.code y bytes maxL ret :: GW) rm (PcW G cs (.ref b :: As) WC H.size) Qc 0 0 fr) (ml : Cond.methodLinkNest own index y host ∈ lw_tbl) (mi : MI y C bytes maxL ret n) (hR : RmOk R rm maxL cells slots)
    (hP : va_P G vwCl WS H) (hD : va_D A WS) (hK : KT G cs s) (hN : NW s) (q0 : Nat) {ci N : Nat} {T : u_T} {fs : List Value} (he : WS[q0]? = some (b, .inr (ci, fs))) (hcl : vwCl[ci]? = some (C, T, N)) (is : List Nat) (hs : is.map (fun i => WS[i]?) = WC.map some) (hnd : va_nd is = true)
    (hn : As.length = n) (hsize : ls.size = nL) (hst : st = As.reverse ++ .ref b :: rest) (hW : (rest.map fun v => v.category).sum ≤ 8) (hdg : decode cc pc = .ok (.invokevirtual index, 3)) : va_Run p l e R s m args below meth c H locs cells slots 0 0 (F0 m pc ls st) rest (Qc (Value.ref b :: As).toArray) fr := by
  subst hst
  exact va_runVN S hM (cwVN' S.2.2.2.2 hN ml mi hR) ⟨PcW_blind, va_recv hK hP hcl he, fun U hU hWm => ⟨rfl, by rw [hU], by rw [hU]; exact hP.subM is hs, (hD.sub is hnd hs).weaken (fun _ _ _ _ => trivial), va_K.moved hWm.alike hK, NW.warm hWm hN⟩⟩ rfl hn hsize rfl (lv_room hW) hdg ⟨hR.2.2.2.2.1, hR.2.2.2.2.2⟩
end KCALL
/-! ===== Java's own numbers ===== -/
def jrem (x y : Int32) : Int32 := x - x / y * y
def jshl (x y : Int32) : Int32 := x <<< (y &&& 31)
def jshr (x y : Int32) : Int32 := x >>> (y &&& 31)
def jushr (x y : Int32) : Int32 := (x.toUInt32 >>> (y.toUInt32 &&& Int32.toUInt32 31)).toInt32
section LJ
variable {p : Program} {l : Launch} {e : Env} {R : Room} {s : State} {m : MethodId} {args : Array Value} {below : List Frame} {meth : Method} {c : Code} {H : Heap} {locs : List Loc} {cells slots : Nat} {Q : State → Prop} {cc : ByteArray} {pc : Nat} {ls : Array Slot} {rest : List Value}
theorem lj_irem (hexec : p.tables.exec = Jvm.exec) (hb : c.code = cc) {x y : Int32} (hdg : decode cc pc = .ok (.irem, 1)) (hne : ¬ y = 0)
    (k : W p l e R s m args below meth c H locs cells slots Q (F0 m (pc + 1) ls (.int (jrem x y) :: rest))) : W p l e R s m args below meth c H locs cells slots Q (F0 m pc ls (.int y :: .int x :: rest)) := lv_irem hexec hb hdg hne k
theorem lj_ishl (hexec : p.tables.exec = Jvm.exec) (hb : c.code = cc) {x y : Int32} (hdg : decode cc pc = .ok (.ishl, 1))
    (k : W p l e R s m args below meth c H locs cells slots Q (F0 m (pc + 1) ls (.int (jshl x y) :: rest))) : W p l e R s m args below meth c H locs cells slots Q (F0 m pc ls (.int y :: .int x :: rest)) := lv_ishl hexec hb hdg k
theorem lj_ishr (hexec : p.tables.exec = Jvm.exec) (hb : c.code = cc) {x y : Int32} (hdg : decode cc pc = .ok (.ishr, 1))
    (k : W p l e R s m args below meth c H locs cells slots Q (F0 m (pc + 1) ls (.int (jshr x y) :: rest))) : W p l e R s m args below meth c H locs cells slots Q (F0 m pc ls (.int y :: .int x :: rest)) := lv_ishr hexec hb hdg k
theorem lj_iushr (hexec : p.tables.exec = Jvm.exec) (hb : c.code = cc) {x y : Int32} (hdg : decode cc pc = .ok (.iushr, 1))
    (k : W p l e R s m args below meth c H locs cells slots Q (F0 m (pc + 1) ls (.int (jushr x y) :: rest))) : W p l e R s m args below meth c H locs cells slots Q (F0 m pc ls (.int y :: .int x :: rest)) := lv_iushr hexec hb hdg rfl k
end LJ
theorem inc_ok {x c : Int32} {n : Int} (h : Int32.ofInt n = c) : x + Int32.ofInt n = x + c := by rw [h]
theorem ifG {c : Prop} [Decidable c] {α : Type} {a : Option α} {x : α} (h : (if c then a else none) = some x) : c ∧ a = some x := by
  by_cases hc : c
  · rw [if_pos hc] at h; exact ⟨hc, h⟩
  · rw [if_neg hc] at h; cases h
theorem nar01 {r : Int32} (h : r = 0 ∨ r = 1) : narrow .boolean (.int r) = .int r := by
  rcases h with rfl | rfl <;> rfl
theorem rmk {R rm : Room} {maxL : Nat} (h : (Nat.beq rm.cells 0 && Nat.beq rm.slots 0 && Nat.ble (rm.frames + 1) R.frames && Nat.ble (8 + (maxL + 11) + rm.locals) R.locals) = true) : RmOk R rm maxL 0 0 := by
  simp only [Bool.and_eq_true] at h
  obtain ⟨⟨⟨h1, h2⟩, h3⟩, h4⟩ := h
  exact ⟨Nat.eq_of_beq_eq_true h1, Nat.eq_of_beq_eq_true h2, Nat.le_of_ble_eq_true h3, Nat.le_of_ble_eq_true h4, Nat.zero_le _, Nat.zero_le _⟩
/-! ===== the grid of a Standing: 11 rows of 9 ===== -/
def gO (ra : Nat → Nat) : Nat → Option Nat := fun i => if i < 11 then some (ra i) else none
def gR (c : ClassId) (ra : Nat → Nat) (M : Nat → Nat → Int32) : va_W := [(ra 0, .inl (c, 9, .inl (M 0))), (ra 1, .inl (c, 9, .inl (M 1))), (ra 2, .inl (c, 9, .inl (M 2))), (ra 3, .inl (c, 9, .inl (M 3))), (ra 4, .inl (c, 9, .inl (M 4))), (ra 5, .inl (c, 9, .inl (M 5))), (ra 6, .inl (c, 9, .inl (M 6))), (ra 7, .inl (c, 9, .inl (M 7))), (ra 8, .inl (c, 9, .inl (M 8))), (ra 9, .inl (c, 9, .inl (M 9))), (ra 10, .inl (c, 9, .inl (M 10)))]
theorem gR_at {c : ClassId} {ra : Nat → Nat} {M : Nat → Nat → Int32} {k : Nat} (h : k < 11) : (gR c ra M)[k]? = some (ra k, .inl (c, 9, .inl (M k))) := by
  rcases (show k = 0 ∨ k = 1 ∨ k = 2 ∨ k = 3 ∨ k = 4 ∨ k = 5 ∨ k = 6 ∨ k = 7 ∨ k = 8 ∨ k = 9 ∨ k = 10 by omega) with rfl | rfl | rfl | rfl | rfl | rfl | rfl | rfl | rfl | rfl | rfl <;> rfl
theorem gR_set {c : ClassId} {ra : Nat → Nat} {M : Nat → Nat → Int32} {k : Nat} {f : Nat → Int32} (h : k < 11) : (gR c ra M).set k (ra k, .inl (c, 9, .inl f)) = gR c ra (va_up M k f) := by
  rcases (show k = 0 ∨ k = 1 ∨ k = 2 ∨ k = 3 ∨ k = 4 ∨ k = 5 ∨ k = 6 ∨ k = 7 ∨ k = 8 ∨ k = 9 ∨ k = 10 by omega) with rfl | rfl | rfl | rfl | rfl | rfl | rfl | rfl | rfl | rfl | rfl <;> rfl
theorem gR_atA {c : ClassId} {ra : Nat → Nat} {M : Nat → Nat → Int32} {X : va_W} {k : Nat} (h : k < 11) : (gR c ra M ++ X)[k]? = some (ra k, .inl (c, 9, .inl (M k))) := by
  rcases (show k = 0 ∨ k = 1 ∨ k = 2 ∨ k = 3 ∨ k = 4 ∨ k = 5 ∨ k = 6 ∨ k = 7 ∨ k = 8 ∨ k = 9 ∨ k = 10 by omega) with rfl | rfl | rfl | rfl | rfl | rfl | rfl | rfl | rfl | rfl | rfl <;> rfl
theorem gR_atB {c : ClassId} {ra rb : Nat → Nat} {M N : Nat → Nat → Int32} {o : Nat × va_E} {k : Nat} (h : k < 11) : (gR c ra M ++ (o :: gR c rb N))[k + 12]? = some (rb k, .inl (c, 9, .inl (N k))) := by
  rcases (show k = 0 ∨ k = 1 ∨ k = 2 ∨ k = 3 ∨ k = 4 ∨ k = 5 ∨ k = 6 ∨ k = 7 ∨ k = 8 ∨ k = 9 ∨ k = 10 by omega) with rfl | rfl | rfl | rfl | rfl | rfl | rfl | rfl | rfl | rfl | rfl <;> rfl
theorem gR_setB {c : ClassId} {ra rb : Nat → Nat} {M N : Nat → Nat → Int32} {o : Nat × va_E} {k : Nat} {f : Nat → Int32} (h : k < 11) : (gR c ra M ++ (o :: gR c rb N)).set (k + 12) (rb k, .inl (c, 9, .inl f)) = gR c ra M ++ (o :: gR c rb (va_up N k f)) := by
  rcases (show k = 0 ∨ k = 1 ∨ k = 2 ∨ k = 3 ∨ k = 4 ∨ k = 5 ∨ k = 6 ∨ k = 7 ∨ k = 8 ∨ k = 9 ∨ k = 10 by omega) with rfl | rfl | rfl | rfl | rfl | rfl | rfl | rfl | rfl | rfl | rfl <;> rfl
theorem vp_lt {i : Int32} {n : Nat} (h : vp_in i n) : i.toNatClampNeg < n := Nat.not_le.mp fun q => h (Or.inr q)
section VROW
variable {p : Program} {l : Launch} {e : Env} {R : Room} {s : State} {m : MethodId} {args : Array Value} {below : List Frame} {meth : Method} {c : Code} {H : Heap} {locs : List Loc} {cells slots : Nat} {Q : State → Prop} {cc : ByteArray} {pc : Nat} {ls : Array Slot} {rest : List Value} {G : va_G} {a : Nat} {ws : va_W} {cs : Nat → ClassId}
/-- a row's address is read out of the grid -/
theorem va_row (hexec : p.tables.exec = Jvm.exec) (hb : c.code = cc) (hK : KT G cs s) (hP : va_P G vwCl ws H) (q0 : Nat) {ra : Nat → Nat} (ha : ws[q0]? = some (a, .inl (cs 3, 11, .inr (.inr (.inr (.inr (gO ra))))))) {i : Int32} (hin : vp_in i 11) (hdg : decode cc pc = .ok (.aaload, 1))
    (kk : W p l e R s m args below meth c H locs cells slots Q (F0 m (pc + 1) ls (.ref (ra i.toNatClampNeg) :: rest))) : W p l e R s m args below meth c H locs cells slots Q (F0 m pc ls (.int i :: .ref a :: rest)) := by
  have hlt := vp_lt hin
  have e1 : va_rf (gO ra i.toNatClampNeg) = .ref (ra i.toNatClampNeg) := by rw [show gO ra i.toNatClampNeg = some (ra i.toNatClampNeg) from if_pos hlt]; rfl
  refine W.aald (v := va_rf (gO ra i.toNatClampNeg)) (ty := .array .int) hexec hb (hP q0 _ ha) ((hK.2 3 (cs 3, .array .int) rfl).1 11 (fun j => va_rf (gO ra j))) rfl (fun q => by cases q) (by show ¬ (i < 0 ∨ (arrV _ _ _).slots.size ≤ _); rw [arrV_size]; exact hin) (by show (arrV _ _ _).slots[_]? = _; rw [arrV_read _ _ hlt]) rfl rfl hdg ?_
  rw [e1]
  exact kk
end VROW
/-! ===== the two tables of Marks ===== -/
def tTr (k : Nat) : Int32 := ([1, 10, 100, 1000, 10000, 100000] : List Int32).getD k 0
def tAb (k : Nat) : Int32 := ([-1, 0, 0, 1, 2, 0] : List Int32).getD k 0
def ST (A : Nat → Prop) (U : State) (H : Heap) : Prop := ∃ tA tT : Nat, va_Z RX3 "ABOVE" "[I" (.ref tA) A U H ∧ va_T .int tA 6 (fun k => .int (tAb k)) A U H ∧ va_Z RX3 "TRACED" "[I" (.ref tT) A U H ∧ va_T .int tT 6 (fun k => .int (tTr k)) A U H
theorem ST.moved {A : Nat → Prop} {u U : State} {H : Heap} (hvm : u.vm.Alike U.vm) (h : ST A u H) : ST A U H := by
  obtain ⟨a, b, h1, h2, h3, h4⟩ := h
  exact ⟨a, b, h1.moved hvm, h2.moved hvm, h3.moved hvm, h4.moved hvm⟩
theorem ST.kept {A : Nat → Prop} {U : State} {H H1 : Heap} (h : ST A U H) (hq : ∀ a : Nat, a < H.size → ¬ A a → H1[a]? = H[a]?) : ST A U H1 := by
  obtain ⟨a, b, h1, h2, h3, h4⟩ := h
  exact ⟨a, b, h1.kept hq, h2.kept hq, h3.kept hq, h4.kept hq⟩
theorem ST.narrow {A B : Nat → Prop} {U : State} {H : Heap} (h : ST A U H) (hAB : ∀ q, B q → A q) : ST B U H := by
  obtain ⟨a, b, h1, h2, h3, h4⟩ := h
  exact ⟨a, b, h1.narrow hAB, h2.narrow hAB, h3.narrow hAB, h4.narrow hAB⟩
/-- the start of a method that writes and reads the tables -/
def PcS (G : va_G) (cs : Nat → ClassId) (av : List Value) (ws : va_W) (sz : Nat) : Array Value → State → Prop := va_Pc av (fun U => U.heap.size = sz ∧ va_P G vwCl ws U.heap ∧ va_D (fun _ => True) ws ∧ KT G cs U ∧ NW U ∧ ST (va_A ws sz) U U.heap)
theorem PcS_blind {G : va_G} {cs : Nat → ClassId} {av : List Value} {ws : va_W} {sz : Nat} : FrameBlind (PcS G cs av ws sz) := fun a U g mk q => by
  obtain ⟨q0, qz, qP, qD, qK, qN, qT⟩ := q
  exact ⟨q0, qz, qP, qD, va_K.moved (u := U) (U := U.calling g mk a) (Vm.Alike.refl U.vm) qK, NW.same (u := U) (U := U.calling g mk a) rfl qN, ST.moved (u := U) (U := U.calling g mk a) (Vm.Alike.refl U.vm) qT⟩
section KCALLS
variable {p : Program} {l : Launch} {e : Env} {R : Room} {s : State} {m : MethodId} {args : Array Value} {below : List Frame} {meth : Method} {c : Code} {H : Heap} {locs : List Loc} {cells slots : Nat} {Q : State → Prop} {G : va_G} {cs : Nat → ClassId}
variable {y : MethodName} {bytes cc : ByteArray} {maxL nL n index pc : Nat} {ret : Option FieldType} {rm : Room} {own C host : String} {b : Addr} {As rest st : List Value} {ls : Array Slot} {WS WC : va_W} {r0 : Int32} {A : Nat → Prop}
theorem rs_V {Qc : Array Value → State → Outcome → State → Prop} {fr : Addr → Prop} (S : CFix p m c cc nL s args own) (hM : Met l y (.code y bytes maxL ret :: GW) rm (PcS G cs (.ref b :: As) WC H.size) Qc 0 0 fr) (ml : Cond.methodLink own index y ∈ GW) (mi : MI y C bytes maxL ret n) (hR : RmOk R rm maxL cells slots)
    (hP : va_P G vwCl WS H) (hD : va_D A WS) (hS : va_S A s.heap H locs) (hA : ∀ q, s.heap.size ≤ q → A q) (hT : ST A s s.heap) (hK : KT G cs s) (hN : NW s) (q0 : Nat) {ci N : Nat} {T : u_T} {fs : List Value} (he : WS[q0]? = some (b, .inr (ci, fs))) (hcl : vwCl[ci]? = some (C, T, N)) (is : List Nat) (hs : is.map (fun i => WS[i]?) = WC.map some) (hnd : va_nd is = true)
    (hn : As.length = n) (hsize : ls.size = nL) (hst : st = As.reverse ++ .ref b :: rest) (hW : (rest.map fun v => v.category).sum ≤ 8) (hdg : decode cc pc = .ok (.invokevirtual index, 3)) : va_Run p l e R s m args below meth c H locs cells slots 0 0 (F0 m pc ls st) rest (Qc (Value.ref b :: As).toArray) fr := by
  subst hst
  exact va_runV S hM (cwV' S.2.2.2.2 ml mi hR) ⟨PcS_blind, va_recv hK hP hcl he, fun U hU hWm => ⟨rfl, by rw [hU], by rw [hU]; exact hP.subM is hs, (hD.sub is hnd hs).weaken (fun _ _ _ _ => trivial), va_K.moved hWm.alike hK, NW.warm hWm hN, by rw [hU]; exact ((hT.kept hS.2.1).narrow (va_free hD hS hA is hs)).moved hWm.alike⟩⟩ rfl hn hsize rfl (lv_room hW) hdg ⟨hR.2.2.2.2.1, hR.2.2.2.2.2⟩
theorem rs_VN {Qc : Array Value → State → Outcome → State → Prop} {fr : Addr → Prop} (S : CFix p m c cc nL s args own) (hM : Met l y (.code y bytes maxL ret :: GW) rm (PcS G cs (.ref b :: As) WC H.size) Qc 0 0 fr) (ml : Cond.methodLinkNest own index y host ∈ lw_tbl) (mi : MI y C bytes maxL ret n) (hR : RmOk R rm maxL cells slots)
    (hP : va_P G vwCl WS H) (hD : va_D A WS) (hS : va_S A s.heap H locs) (hA : ∀ q, s.heap.size ≤ q → A q) (hT : ST A s s.heap) (hK : KT G cs s) (hN : NW s) (q0 : Nat) {ci N : Nat} {T : u_T} {fs : List Value} (he : WS[q0]? = some (b, .inr (ci, fs))) (hcl : vwCl[ci]? = some (C, T, N)) (is : List Nat) (hs : is.map (fun i => WS[i]?) = WC.map some) (hnd : va_nd is = true)
    (hn : As.length = n) (hsize : ls.size = nL) (hst : st = As.reverse ++ .ref b :: rest) (hW : (rest.map fun v => v.category).sum ≤ 8) (hdg : decode cc pc = .ok (.invokevirtual index, 3)) : va_Run p l e R s m args below meth c H locs cells slots 0 0 (F0 m pc ls st) rest (Qc (Value.ref b :: As).toArray) fr := by
  subst hst
  exact va_runVN S hM (cwVN' S.2.2.2.2 hN ml mi hR) ⟨PcS_blind, va_recv hK hP hcl he, fun U hU hWm => ⟨rfl, by rw [hU], by rw [hU]; exact hP.subM is hs, (hD.sub is hnd hs).weaken (fun _ _ _ _ => trivial), va_K.moved hWm.alike hK, NW.warm hWm hN, by rw [hU]; exact ((hT.kept hS.2.1).narrow (va_free hD hS hA is hs)).moved hWm.alike⟩⟩ rfl hn hsize rfl (lv_room hW) hdg ⟨hR.2.2.2.2.1, hR.2.2.2.2.2⟩
end KCALLS
/-- the room of the recursion, by its turns -/
def rm_X3_ask (n : Nat) : Room := { frames := n + 1, cells := 0, slots := 0, locals := 23 * n + 23 }
