/-! ===== the book told ===== -/
theorem hasOp_in {n v : Nat} (hn : n ≤ 5) (h : v < n) : f_X0_hasOpinion (nI n) (nI v) = some 1 := by
  unfold f_X0_hasOpinion
  rw [if_neg (by rw [l0, nlt0 (by omega)]; exact id), if_neg (by rw [nleI (by omega) (by omega)]; omega)]
theorem hasOp_out {n v : Nat} (hn : n ≤ 5) (hv : v ≤ 99) (h : n ≤ v) : f_X0_hasOpinion (nI n) (nI v) = some 0 := by
  unfold f_X0_hasOpinion
  rw [if_neg (by rw [l0, nlt0 (by omega)]; exact id), if_pos (by rw [nleI (by omega) (by omega)]; omega)]
theorem addLine_ok {n l v : Nat} {g : Nat → Nat} (hl : l < 4) : f_X0_addLine (nI n) (nI l) (nI (n ^ l)) (nI (cmN n g l)) (nI v) = some (nI (l + 1), nI (n ^ (l + 1)), nI (cmN n g l * n + v)) := by
  unfold f_X0_addLine
  rw [if_neg (by rw [l4, nleI (by omega) (by omega)]; omega), n1, pk_mul, pk_mul, nI_add, Nat.pow_succ]
theorem AR_y {len e e' : Nat} {tx : Nat → Nat} {rt text : Nat → Int32} {r : Int32 × Int32 × Int32 × Int32} (hc : TXC len tx rt) (hM : TXM len tx text) (h1 : e < e') (h2 : e' ≤ len) (h3 : r.1 = nI e') (h4 : r.2.2.1 = 2) (pl : Int32) : AR len rt text e r.1 r.2.1 r.2.2.1 r.2.2.2 (-9) 1 (nI e') pl := by
  obtain ⟨p2, r2, d1, d2⟩ := due_yes (st := r.2.1) (so := r.2.2.1) (va := r.2.2.2) hc hM h2
  refine Or.inl ⟨e', p2, r2, h1, h2, d1, ?_, rfl, rfl⟩
  unfold dueS
  rw [if_pos h4, h3, d2]
theorem three_ne2 : ¬ (3 : Int32) = 2 := by decide
theorem two_ne3 : ¬ (2 : Int32) = 3 := by decide
theorem two_ne1 : ¬ (2 : Int32) = 1 := by decide
theorem book_sim {len n : Nat} {tx : Nat → Nat} {rt text : Nat → Int32} (hc : TXC len tx rt) (hM : TXM len tx text) (hn : 2 ≤ n) (hn5 : n ≤ 5) (nt : Int32) (mop msc mtu mbe mne : Nat → Int32) (hop : mop 1 = nI n) : ∀ (m l e p : Nat) (r : Int32 × Int32 × Int32 × Int32) (g : Nat → Nat) (mli mdb : Nat → Int32) (place sort val : Int32) (N1 N2 : Nat), l + m = 4 → 1 ≤ l → TK len rt e p r → mli 1 = nI l → (∀ j, j < l → mdb j = nI (g j) ∧ g j < n) → m + 2 ≤ N1 → m + 2 ≤ N2 → ∃ a st so va fa mli' mdb' ok nx pl s w li' bo' to', lpF (b_X9_readRow_77 (nI len) nt text mop msc mtu mbe mne) N2 (r.1, r.2.1, r.2.2.1, r.2.2.2, -9, mli, mdb) = some (nt, a, st, so, va, fa, mop, mli', mdb', msc, mtu, mbe, mne) ∧ lpF (b_X4_readBook_7 (nI len) 1 rt (nI n)) N1 (nI l, nI e, place, sort, val, nI l, nI (n ^ l), nI (cmN n g l)) = some (ok, nx, pl, s, w, 1, li', bo', to') ∧ AR len rt text e a st so va fa ok nx pl ∧ mli' 0 = mli 0 ∧ (ok = 1 → ∃ l' g', 1 ≤ l' ∧ l' ≤ 4 ∧ li' = nI l' ∧ bo' = nI (n ^ l') ∧ to' = nI (cmN n g' l') ∧ mli' 1 = nI l' ∧ ∀ j, j < l' → mdb' j = nI (g' j) ∧ g' j < n)
  | 0, l, e, p, r, g, mli, mdb, place, sort, val, N1, N2, hlm, hl1, hT, hmli, hg, hN1, hN2 => by
    have hl : l = 4 := by omega
    subst hl
    obtain ⟨M1, rfl⟩ : ∃ M, N1 = M + 1 := ⟨N1 - 1, by omega⟩
    obtain ⟨M2, rfl⟩ : ∃ M, N2 = M + 1 := ⟨N2 - 1, by omega⟩
    obtain ⟨ok, nx, pl, s, w, b1, b2, b3⟩ := stop_ok hc hM hT val
    refine ⟨r.1, r.2.1, r.2.2.1, r.2.2.2, -9, mli, mdb, ok, nx, pl, s, w, nI 4, nI (n ^ 4), nI (cmN n g 4), lpF_r ?_, lpF_r ?_, b3, rfl, fun _ => ⟨4, g, by omega, by omega, rfl, rfl, rfl, hmli, hg⟩⟩
    · unfold b_X9_readRow_77
      dsimp only
      rw [if_pos rfl, if_pos (show (4 : Int32) ≤ mli (1 : Int32).toNatClampNeg by rw [show mli (1 : Int32).toNatClampNeg = nI 4 from hmli]; decide), ite_self]
    · unfold b_X4_readBook_7
      dsimp only
      rw [if_pos (by decide), b1, bnd_some, if_pos b2]
  | m + 1, l, e, p, r, g, mli, mdb, place, sort, val, N1, N2, hlm, hl1, hT, hmli, hg, hN1, hN2 => by
    have hp := hT.2.2.1
    have hpl := hT.1
    have hlen := hc.1
    obtain ⟨M1, rfl⟩ : ∃ M, N1 = M + 1 := ⟨N1 - 1, by omega⟩
    obtain ⟨M2, rfl⟩ : ∃ M, N2 = M + 1 + 1 := ⟨N2 - 2, by omega⟩
    have bodyC : ∀ q, f_X4_readToken (nI len) (nI e) val rt = some q → ¬ q.2.2.1 = 2 → ¬ q.2.2.1 = 3 → b_X4_readBook_7 (nI len) 1 rt (nI n) (nI l, nI e, place, sort, val, nI l, nI (n ^ l), nI (cmN n g l)) = some (.inr (0, q.1, q.2.1, q.2.2.1, q.2.2.2, 1, nI l, nI (n ^ l), nI (cmN n g l))) := by
      intro q hq h2 h3
      unfold b_X4_readBook_7
      dsimp only
      rw [if_neg (by rw [l4, nleI (by omega) (by omega)]; omega), hq, bnd_some, if_neg (by rw [l0, nleI (by omega) (by omega)]; omega), if_neg h3, if_neg h2]
    rcases stop_case hT with ⟨e', s1, s2, s3, s4, s5⟩ | ⟨s1, s2⟩
    · refine ⟨r.1, r.2.1, r.2.2.1, r.2.2.2, -9, mli, mdb, 1, nI e', nI p, 3, val, nI l, nI (n ^ l), nI (cmN n g l), lpF_r ?_, lpF_r ?_, AR_y hc hM s1 s2 s3 s4 _, rfl, fun _ => ⟨l, g, by omega, by omega, rfl, rfl, rfl, hmli, hg⟩⟩
      · unfold b_X9_readRow_77
        dsimp only
        rw [if_pos rfl, if_neg (by rw [s4]; decide)]
      · unfold b_X4_readBook_7
        dsimp only
        rw [if_neg (by rw [l4, nleI (by omega) (by omega)]; omega), s5 val, bnd_some, if_neg (by rw [l0, nleI (by omega) (by omega)]; omega), if_pos rfl]
    · have hhi : mop (1 : Int32).toNatClampNeg - (1 : Int32) = nI (n - 1) := by
        rw [show mop (1 : Int32).toNatClampNeg = nI n from hop, l1, pk_sub (by omega)]
      have hm1 : mli (1 : Int32).toNatClampNeg = nI l := hmli
      rcases num_ok (lo := 0) (hi := n - 1) (lo' := 0) rfl hhi hc hM hT (by omega) (by omega) with ⟨v, e', p', r', a1, a2, a3, a4, a5, a6, a7, a8, -⟩ | ⟨a1, a2, -⟩
      · have hg' : ∀ j, j < l + 1 → upd mdb l (nI v) j = nI ((fun j => if j = l then v else g j) j) ∧ (fun j => if j = l then v else g j) j < n := by
          intro j hj
          by_cases c : j = l
          · subst c; dsimp only; rw [upd_eq, if_pos rfl]; exact ⟨rfl, by omega⟩
          · dsimp only; rw [upd_ne c, if_neg c]; exact hg j (by omega)
        obtain ⟨a, st, so, va, fa, mli', mdb', ok, nx, pl, s, w, li', bo', to', c1, c2, c3, c4, c5⟩ := book_sim hc hM hn hn5 nt mop msc mtu mbe mne hop m (l + 1) e' p' r' (fun j => if j = l then v else g j) (upd mli 1 (nI (l + 1))) (upd mdb l (nI v)) (nI p) 2 (nI v) M1 (M2 + 1) (by omega) (by omega) a5 upd_eq hg' (by omega) (by omega)
        refine ⟨a, st, so, va, fa, mli', mdb', ok, nx, pl, s, w, li', bo', to', ?_, ?_, AR_le c3 (by omega), by rw [c4, upd_ne (by decide)], c5⟩
        · rw [lpF_l (s' := (r'.1, r'.2.1, r'.2.2.1, r'.2.2.2, -9, upd mli 1 (nI (l + 1)), upd mdb l (nI v))) ?_]
          · exact c1
          · unfold b_X9_readRow_77
            dsimp only
            rw [if_pos rfl, if_pos a7, if_neg (by rw [hm1, l4, nleI (by omega) (by omega)]; omega), a6, bnd_some, if_neg (by rw [hm1]; exact gN (by omega) (by omega)), hm1, n1, nI_clamp (by omega)]
            rfl
        · rw [lpF_l (s' := (nI (l + 1), nI e', nI p, (2 : Int32), nI v, nI (l + 1), nI (n ^ (l + 1)), nI (cmN n (fun j => if j = l then v else g j) (l + 1)))) ?_]
          · exact c2
          · have ecm : cmN n (fun j => if j = l then v else g j) (l + 1) = cmN n g l * n + v := by
              show cmN n (fun j => if j = l then v else g j) l * n + (if l = l then v else g l) = _
              rw [if_pos rfl, cmN_congr (g' := g) (fun j hj => by rw [if_neg (by omega)])]
            unfold b_X4_readBook_7
            dsimp only
            rw [if_neg (by rw [l4, nleI (by omega) (by omega)]; omega), a8 val, bnd_some, if_neg (by rw [l0, nleI (by omega) (by omega)]; omega), if_neg two_ne3, if_pos rfl, hasOp_in hn5 (by omega), bnd_some, if_neg one_ne, addLine_ok (by omega), bnd_some, n1, ecm]
      · by_cases cs : r.2.2.1 = 1
        · -- a number, but no opinion
          obtain ⟨nx, s, w, b1, b2⟩ := a2 val
          have hb : b_X4_readBook_7 (nI len) 1 rt (nI n) (nI l, nI e, place, sort, val, nI l, nI (n ^ l), nI (cmN n g l)) = some (.inr (0, nx, nI p, s, w, 1, nI l, nI (n ^ l), nI (cmN n g l))) := by
            by_cases q2 : s = 2
            · rcases b2 with b2 | ⟨v, b2, b3, b4⟩
              · exact absurd q2 b2
              · subst q2 b3
                unfold b_X4_readBook_7
                dsimp only
                rw [if_neg (by rw [l4, nleI (by omega) (by omega)]; omega), b1, bnd_some, if_neg (by rw [l0, nleI (by omega) (by omega)]; omega), if_neg two_ne3, if_pos rfl, hasOp_out hn5 b2 (by omega), bnd_some, if_pos rfl]
            · obtain ⟨nx', s', w', d1, d2⟩ := s2 val
              rw [b1] at d1
              cases d1
              exact bodyC _ b1 q2 d2
          refine ⟨r.1, r.2.1, r.2.2.1, r.2.2.2, nI p, upd mli 1 (nI (l + 1)), upd mdb l r.2.2.2, 0, nx, nI p, s, w, nI l, nI (n ^ l), nI (cmN n g l), ?_, lpF_r hb, AR_f hpl hlen, upd_ne (by decide), fun z => absurd z (by decide)⟩
          rw [lpF_l (s' := (r.1, r.2.1, r.2.2.1, r.2.2.2, nI p, upd mli 1 (nI (l + 1)), upd mdb l r.2.2.2)) ?_]
          · refine lpF_r ?_
            unfold b_X9_readRow_77
            dsimp only
            rw [if_neg (by rw [km9, nne9 (by omega)]; exact id)]
          · unfold b_X9_readRow_77
            dsimp only
            rw [if_pos rfl, if_pos cs, if_neg (by rw [hm1, l4, nleI (by omega) (by omega)]; omega), a1, bnd_some, if_neg (by rw [hm1]; exact gN (by omega) (by omega)), hm1, n1, nI_clamp (by omega)]
            rfl
        · -- neither a number nor a stop
          rcases num_case hT with ⟨v, e', z1, z2, z3, z4, z5, z6⟩ | ⟨-, z2⟩
          · exact absurd z5 cs
          · obtain ⟨nx, s, w, b1, b2⟩ := z2 val
            obtain ⟨nx', s', w', d1, d2⟩ := s2 val
            rw [b1] at d1
            cases d1
            refine ⟨r.1, r.2.1, r.2.2.1, r.2.2.2, -9, mli, mdb, 0, nx, nI p, s, w, nI l, nI (n ^ l), nI (cmN n g l), lpF_r ?_, lpF_r (bodyC _ b1 b2 d2), ?_, rfl, fun z => absurd z (by decide)⟩
            · unfold b_X9_readRow_77
              dsimp only
              rw [if_pos rfl, if_neg cs]
            · rw [hp]; exact AR_n hpl s1
theorem row_b {len n e p : Nat} {tx : Nat → Nat} {rt text : Nat → Int32} {r : Int32 × Int32 × Int32 × Int32} (hc : TXC len tx rt) (hM : TXM len tx text) (h : TK len rt e p r) (hn : 2 ≤ n) (hn5 : n ≤ 5) (nt : Int32) (mop mli mdb msc mtu mbe mne : Nat → Int32) (hop : mop 1 = nI n) (place sort val : Int32) : ∃ a st so va fa mli' mdb' ok nx pl s w li' bo' to', f_X9_readRow (nI len) nt r.1 r.2.1 r.2.2.1 r.2.2.2 (-9) text mop mli mdb msc mtu mbe mne 98 = some (nt, a, st, so, va, fa, mop, mli', mdb', msc, mtu, mbe, mne) ∧ f_X4_readBook (nI len) (nI e) place sort val rt (nI n) (nI 0) (nI 1) (nI 0) = some (ok, nx, pl, s, w, 1, li', bo', to') ∧ AR len rt text e a st so va fa ok nx pl ∧ mli' 0 = mli 0 ∧ (ok = 1 → ∃ l' g', 1 ≤ l' ∧ l' ≤ 4 ∧ li' = nI l' ∧ bo' = nI (n ^ l') ∧ to' = nI (cmN n g' l') ∧ mli' 1 = nI l' ∧ ∀ j, j < l' → mdb' j = nI (g' j) ∧ g' j < n) := by
  have hl := hc.1
  have hpl := h.1
  unfold f_X9_readRow f_X4_readBook
  rw [if_pos (show (98 : Int32) = 98 from rfl)]
  have hhi : mop (1 : Int32).toNatClampNeg - (1 : Int32) = nI (n - 1) := by
    rw [show mop (1 : Int32).toNatClampNeg = nI n from hop, l1, pk_sub (by omega)]
  rcases num_ok (lo := 0) (hi := n - 1) (lo' := 0) rfl hhi hc hM h (by omega) (by omega) with ⟨v, e', p', r', a1, a2, a3, a4, a5, a6, a7, a8, -⟩ | ⟨a1, a2, -⟩
  · obtain ⟨a, st, so, va, fa, mli', mdb', ok, nx, pl, s, w, li', bo', to', c1, c2, c3, c4, c5⟩ := book_sim hc hM hn hn5 nt mop msc mtu mbe mne hop 3 1 e' p' r' (fun _ => v) (upd mli 1 (nI 1)) (upd mdb 0 (nI v)) (nI p) 2 (nI v) 29999 30000 (by omega) (by omega) a5 upd_eq (fun j hj => by rw [show j = 0 by omega, upd_eq]; exact ⟨rfl, by omega⟩) (by omega) (by omega)
    refine ⟨a, st, so, va, fa, mli', mdb', ok, nx, pl, s, w, li', bo', to', by rw [a6, bnd_some]; exact c1, ?_, AR_le c3 (by omega), by rw [c4, upd_ne (by decide)], c5⟩
    refine (lpF_l (n := 29999) (s' := (nI 1, nI e', nI p, (2 : Int32), nI v, nI 1, nI (n ^ 1), nI (cmN n (fun _ => v) 1))) ?_).trans c2
    have := addLine_ok (n := n) (l := 0) (v := v) (g := fun _ => v) (by omega)
    unfold b_X4_readBook_7
    dsimp only
    rw [if_neg (by decide), a8 val, bnd_some, if_pos (by decide), if_pos rfl, hasOp_in hn5 (by omega), bnd_some, if_neg one_ne, show f_X0_addLine (nI n) (nI 0) (nI 1) (nI 0) (nI v) = _ from this, bnd_some]
    rfl
  · obtain ⟨nx, s, w, b1, b2⟩ := a2 val
    refine ⟨r.1, r.2.1, r.2.2.1, r.2.2.2, nI p, upd mli 1 (nI 1), upd mdb 0 r.2.2.2, 0, nx, nI p, s, w, nI 0, nI 1, nI 0, ?_, ?_, AR_f hpl hl, upd_ne (by decide), fun z => absurd z (by decide)⟩
    · rw [a1, bnd_some]
      refine lpF_r (n := 29999) ?_
      unfold b_X9_readRow_77
      dsimp only
      rw [if_neg (by rw [km9, nne9 (by omega)]; exact id)]
      rfl
    · refine lpF_r (n := 29999) ?_
      unfold b_X4_readBook_7
      dsimp only
      rw [if_neg (by decide), b1, bnd_some, if_pos (by decide)]
      by_cases q2 : s = 2
      · rcases b2 with b2 | ⟨v, b2, b3, b4⟩
        · exact absurd q2 b2
        · subst q2 b3
          rw [if_pos rfl, hasOp_out hn5 b2 (by omega), bnd_some, if_pos rfl]
      · rw [if_neg q2]
/-! ===== the reference takes what it has read ===== -/
def tdF (tu : Nat → Int32) (i : Nat) : Nat → Int32 := fun x => if x < i then tu (6 + x) else tu x
theorem tdF_i {tu : Nat → Int32} {i x : Nat} (h : x < i) : tdF tu i x = tu (6 + x) := if_pos h
theorem tdF_o {tu : Nat → Int32} {i x : Nat} (h : i ≤ x) : tdF tu i x = tu x := if_neg (by omega)
def zrF (now : Nat → Int32) (i : Nat) : Nat → Int32 := fun x => if x < i then nI 0 else now x
theorem zrF_i {now : Nat → Int32} {i x : Nat} (h : x < i) : zrF now i x = nI 0 := if_pos h
theorem zrF_o {now : Nat → Int32} {i x : Nat} (h : i ≤ x) : zrF now i x = now x := if_neg (by omega)
theorem takeDraft_ok {n L S d : Nat} {t b g : Nat → Nat} {mop mli mdb msc mtu mbe mne now ik : Nat → Int32} (h : HOK n L S d t b) (h1 : mop 1 = nI n) (h2 : mli 1 = nI L) (h3 : msc 1 = nI S) (h4 : mne 1 = nI d) (h5 : ∀ l, l < L → mdb l = nI (g l) ∧ g l < n) (h6 : ∀ s, s < S → mtu (6 + s) = nI (t s) ∧ mbe (6 + s) = nI (b s)) : ∃ op' li' sc' tu' be' ne' now' ik', f_X9_takeDraft mop mli mdb msc mtu mbe mne now ik = some (nI (cmN n g L), 0, op', li', sc', tu', be', ne', now', ik') ∧ MH n L S d t b op' li' sc' ne' tu' be' ∧ now' 0 = nI (cmN n g L) ∧ (∀ j, 1 ≤ j → j < 10 → now' j = nI 0) ∧ ik' 0 = 0 ∧ ik' 1 = 0 := by
  obtain ⟨g1, g2, g3, g4, g5, g6, g7⟩ := id h
  have k : ∀ (op li sc ne tu be : Nat → Int32), op 0 = nI n → li 0 = nI L → lpF (b_X9_takeDraft_94 op li mdb sc tu be ne ik) FU ((0 : Int32), now) = some (nI (cmN n g L), 0, op, li, sc, tu, be, ne, upd (upd (zrF now 9) 0 (nI (cmN n g L))) 9 (nI 0), upd (upd ik 0 (vp_nar .boolean (0 : Int32))) 1 (vp_nar .boolean (0 : Int32))) := by
    intro op li sc ne tu be ho hli
    have e0 : now = zrF now 0 := funext fun x => (zrF_o (by omega)).symm
    conv => lhs; rw [e0]
    refine lp_run0 (st := fun i => (nI i, zrF now i)) 9 _ (by omega) (fun i hi => ?_) ?_
    · unfold b_X9_takeDraft_94
      dsimp only
      rw [if_neg (by rw [l9, nleI (by omega) (by omega)]; omega), if_neg (gN (by omega) (by omega)), nI_clamp (by omega), n1]
      congr 3
      funext x
      by_cases e : x = i
      · subst e; rw [upd_eq, zrF_i (by omega)]; rfl
      · rw [upd_ne e]
        by_cases c : x < i
        · rw [zrF_i c, zrF_i (by omega)]
        · rw [zrF_o (by omega), zrF_o (by omega)]
    · unfold b_X9_takeDraft_94
      dsimp only
      rw [if_pos (by decide)]
      have : lpF (b_X9_takeDraft_115 op li mdb sc tu be ne ik) FU ((0 : Int32), zrF now 9) = some (nI (cmN n g L), 0, op, li, sc, tu, be, ne, upd (upd (zrF now 9) 0 (nI (cmN n g L))) 9 (nI 0), upd (upd ik 0 (vp_nar .boolean (0 : Int32))) 1 (vp_nar .boolean (0 : Int32))) := by
        have e1 : zrF now 9 = upd (zrF now 9) 0 (nI (cmN n g 0)) := by
          funext x
          by_cases e : x = 0
          · subst e; rw [upd_eq]; exact zrF_i (by omega)
          · rw [upd_ne e]
        rw [e1]
        have e2 : upd (upd (upd (zrF now 9) 0 (nI (cmN n g 0))) 0 (nI (cmN n g L))) 9 (nI 0) = upd (upd (zrF now 9) 0 (nI (cmN n g L))) 9 (nI 0) := by rw [← e1]
        rw [e2]
        refine lp_run0 (st := fun i => (nI i, upd (zrF now 9) 0 (nI (cmN n g i)))) L _ (by omega) (fun i hi => ?_) ?_
        · unfold b_X9_takeDraft_115
          dsimp only
          rw [show li (0 : Int32).toNatClampNeg = nI L from hli, show op (0 : Int32).toNatClampNeg = nI n from ho, if_neg (by rw [nleI (by omega) (by omega)]; omega), if_neg (gN (by omega) (by omega)), nI_clamp (by omega), n1, (h5 i hi).1]
          rw [show upd (zrF now 9) 0 (nI (cmN n g i)) (0 : Int32).toNatClampNeg = nI (cmN n g i) from upd_eq, pk_mul, nI_add, show (0 : Int32).toNatClampNeg = 0 from rfl]
          congr 3
          funext x
          by_cases e : x = 0
          · subst e; rw [upd_eq, upd_eq]; rfl
          · rw [upd_ne e, upd_ne e, upd_ne e]
        · unfold b_X9_takeDraft_115
          dsimp only
          rw [show li (0 : Int32).toNatClampNeg = nI L from hli, if_pos (by rw [nleI (by omega) (by omega)]; omega), show upd (zrF now 9) 0 (nI (cmN n g L)) (0 : Int32).toNatClampNeg = nI (cmN n g L) from upd_eq]
          rfl
      rw [this]
      rfl
  unfold f_X9_takeDraft
  refine ⟨upd mop 0 (nI n), upd mli 0 (nI L), upd msc 0 (nI S), tdF mtu 6, tdF mbe 6, upd mne 0 (nI d), upd (upd (zrF now 9) 0 (nI (cmN n g L))) 9 (nI 0), upd (upd ik 0 (vp_nar .boolean (0 : Int32))) 1 (vp_nar .boolean (0 : Int32)), ?_, ⟨h, upd_eq, upd_eq, upd_eq, upd_eq, fun s hs => ?_⟩, ?_, fun j hj1 hj2 => ?_, ?_, ?_⟩
  · rw [show mop (1 : Int32).toNatClampNeg = nI n from h1, show mli (1 : Int32).toNatClampNeg = nI L from h2, show msc (1 : Int32).toNatClampNeg = nI S from h3, show mne (1 : Int32).toNatClampNeg = nI d from h4, show (0 : Int32).toNatClampNeg = 0 from rfl]
    have e1 : mtu = tdF mtu 0 := funext fun x => (tdF_o (by omega)).symm
    have e2 : mbe = tdF mbe 0 := funext fun x => (tdF_o (by omega)).symm
    conv => lhs; rhs; rw [e1, e2]
    refine lp_run0 (st := fun i => (nI i, tdF mtu i, tdF mbe i)) 6 _ (by omega) (fun i hi => ?_) ?_
    · unfold b_X9_takeDraft_50
      dsimp only
      rw [show (6 : Int32) + nI i = nI (6 + i) by rw [l6, nI_add], if_neg (by rw [l6, nleI (by omega) (by omega)]; omega), if_neg (gN (by omega) (by omega)), if_neg (gN (by omega) (by omega)), if_neg (gN (by omega) (by omega)), if_neg (gN (by omega) (by omega)), nI_clamp (by omega), nI_clamp (by omega), n1, tdF_o (x := 6 + i) (by omega), tdF_o (x := 6 + i) (by omega)]
      have ef : ∀ f : Nat → Int32, upd (tdF f i) i (f (6 + i)) = tdF f (i + 1) := by
        intro f
        funext x
        by_cases e : x = i
        · subst e; rw [upd_eq, tdF_i (by omega)]
        · rw [upd_ne e]
          by_cases c : x < i
          · rw [tdF_i c, tdF_i (by omega)]
          · rw [tdF_o (by omega), tdF_o (by omega)]
      rw [ef, ef]
    · unfold b_X9_takeDraft_50
      dsimp only
      rw [if_pos (by decide), k _ _ _ _ _ _ upd_eq upd_eq]
      rfl
  · rw [tdF_i (by omega), tdF_i (by omega)]
    exact h6 s hs
  · rw [upd_ne (by decide), upd_eq]
  · by_cases e : j = 9
    · subst e; rw [upd_eq]
    · rw [upd_ne e, upd_ne (by omega), zrF_i (by omega)]
  · rw [upd_ne (by decide), upd_eq]; rfl
  · rw [upd_eq]; rfl
