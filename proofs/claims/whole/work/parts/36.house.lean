/-! ===== the whole text read, on both sides ===== -/
def DR (n L S d : Nat) (t b g : Nat → Nat) (cop cli cbo cto csc cne : Int32) (dtu dbe : Nat → Int32) (bt : Int32) (mop mli mdb msc mtu mbe mne : Nat → Int32) : Prop := HOK n L S d t b ∧ cop = nI n ∧ cli = nI L ∧ cbo = nI (n ^ L) ∧ cto = nI (cmN n g L) ∧ csc = nI S ∧ cne = nI d ∧ (∀ s, s < S → dtu s = nI (t s) ∧ dbe s = nI (b s)) ∧ bt = (if L = 0 then 0 else 1) ∧ mop 1 = nI n ∧ mli 1 = nI L ∧ msc 1 = nI S ∧ mne 1 = nI d ∧ (∀ l, l < L → mdb l = nI (g l) ∧ g l < n) ∧ ∀ s, s < S → mtu (6 + s) = nI (t s) ∧ mbe (6 + s) = nI (b s)
def PZ (op0 li0 sc0 ne0 tu0 be0 mop mli msc mne mtu mbe : Nat → Int32) : Prop := mop 0 = op0 0 ∧ mli 0 = li0 0 ∧ msc 0 = sc0 0 ∧ mne 0 = ne0 0 ∧ ∀ s, s < 6 → mtu s = tu0 s ∧ mbe s = be0 s
abbrev R1T := Int32 × Int32 × Int32 × Int32 × Int32 × Int32 × Int32 × Int32 × Int32 × Int32 × Int32 × Int32 × Int32 × (Nat → Int32) × (Nat → Int32)
abbrev R2T := Int32 × Int32 × Int32 × Int32 × Int32 × Int32 × Int32 × Int32 × Int32 × Int32 × (Nat → Int32) × (Nat → Int32) × (Nat → Int32) × (Nat → Int32) × (Nat → Int32) × (Nat → Int32) × (Nat → Int32) × (Nat → Int32) × (Nat → Int32)
def RR (len : Nat) (tgt mar : Int32) (now ik op0 li0 sc0 ne0 tu0 be0 : Nat → Int32) (R1 : R1T) (R2 : R2T) : Prop :=
  (∃ pf, pf ≤ 120 ∧ (∃ x1 x2 x3 x4 x5 x6 c1 c2 c3 c4 c5 c6 dtu dbe, R1 = ((-10 : Int32) - nI pf, x1, x2, x3, x4, x5, x6, c1, c2, c3, c4, c5, c6, dtu, dbe)) ∧ ∃ nt a st so va fa mop mli mdb msc mtu mbe mne, R2 = ((-10 : Int32) - nI pf, nI len, nt, a, st, so, va, fa, tgt, mar, mop, mli, mdb, msc, mtu, mbe, mne, now, ik) ∧ PZ op0 li0 sc0 ne0 tu0 be0 mop mli msc mne mtu mbe) ∨
  (∃ items n L S d t b g, items ≤ 120 ∧ (∀ l, l < L → g l < n) ∧ (∃ x1 x2 x3 x4 x5 x6 dtu dbe, R1 = (nI items, x1, x2, x3, x4, x5, x6, nI n, nI L, nI (n ^ L), nI (cmN n g L), nI S, nI d, dtu, dbe) ∧ CH n L S d t b dtu dbe) ∧ ∃ nt a st so va fa op li mdb sc tu be ne now' ik', R2 = (nI items, 0, nt, a, st, so, va, fa, nI (cmN n g L), 0, op, li, mdb, sc, tu, be, ne, now', ik') ∧ MH n L S d t b op li sc ne tu be ∧ now' 0 = nI (cmN n g L) ∧ (∀ j, 1 ≤ j → j < 10 → now' j = nI 0) ∧ ik' 0 = 0 ∧ ik' 1 = 0)
theorem house_f {len pf M : Nat} {tgt mar : Int32} {text now ik : Nat → Int32} {it nt a st so va : Int32} {mop mli mdb msc mtu mbe mne : Nat → Int32} (h : pf ≤ 120) : lpF (b_X9_house_21 (nI len) tgt mar text now ik) (M + 1) (it, nt, a, st, so, va, nI pf, mop, mli, mdb, msc, mtu, mbe, mne) = some ((-10 : Int32) - nI pf, nI len, nt, a, st, so, va, nI pf, tgt, mar, mop, mli, mdb, msc, mtu, mbe, mne, now, ik) := by
  refine lpF_r ?_
  unfold b_X9_house_21
  dsimp only
  rw [if_neg (by rw [km9, nne9 (by omega)]; exact id), if_neg (by rw [km9, nne9 (by omega)]; exact id)]
theorem bodyM_bad {len : Nat} {tgt mar : Int32} {text now ik : Nat → Int32} {it nt a so va : Int32} {p : Nat} {mop mli mdb msc mtu mbe mne : Nat → Int32} (hp : p ≤ 120) (h3 : ¬ so = 3) (hm : f_X9_mayBe nt mli msc so it = some 0) : b_X9_house_21 (nI len) tgt mar text now ik (it, nt, a, nI p, so, va, -9, mop, mli, mdb, msc, mtu, mbe, mne) = some (.inl (it, nt, a, nI p, so, va, nI p, mop, mli, mdb, msc, mtu, mbe, mne)) := by
  unfold b_X9_house_21
  dsimp only
  rw [if_pos rfl, if_neg h3, hm, bnd_some, due_no, bnd_some, if_neg (by dsimp only; rw [km9, nne9 (by omega)]; exact id)]
theorem bodyM_ok {len : Nat} {tgt mar : Int32} {text now ik : Nat → Int32} {it nt a0 st0 so va0 : Int32} {mop mli mdb msc mtu mbe mne : Nat → Int32} {r : Int32 × Int32 × Int32 × Int32} {nt' a st so' va fa : Int32} {mop' mli' mdb' msc' mtu' mbe' mne' : Nat → Int32} {x1 x2 x3 x4 x5 x6 : Int32} (h3 : ¬ so = 3) (hm : f_X9_mayBe nt mli msc so it = some 1) (hd : f_X9_due (nI len) a0 st0 so va0 (-9) text 1 = some (va0, r.1, r.2.1, r.2.2.1, r.2.2.2, -9)) (hr : f_X9_readRow (nI len) nt r.1 r.2.1 r.2.2.1 r.2.2.2 (-9) text mop mli mdb msc mtu mbe mne so = some (nt', a, st, so', va, fa, mop', mli', mdb', msc', mtu', mbe', mne')) (hs : dueS len text a st so' va fa = some (x1, x2, x3, x4, x5, x6)) : b_X9_house_21 (nI len) tgt mar text now ik (it, nt, a0, st0, so, va0, -9, mop, mli, mdb, msc, mtu, mbe, mne) = some (.inl (it + 1, nt', x2, x3, x4, x5, x6, mop', mli', mdb', msc', mtu', mbe', mne')) := by
  unfold b_X9_house_21
  dsimp only
  rw [if_pos rfl, if_neg h3, hm, bnd_some, hd, bnd_some, if_pos rfl, hr, bnd_some]
  unfold dueS at hs
  dsimp only
  by_cases c : so' = 2
  · rw [if_pos c] at hs
    rw [if_pos c, hs, bnd_some]
  · rw [if_neg c] at hs
    rw [if_neg c, hs, bnd_some]
theorem bodyC_bad {len items : Nat} {rt : Nat → Int32} {e0 place sort val bt nt cop cli cbo cto csc cne nx s w : Int32} {p : Nat} {dtu dbe : Nat → Int32} (hi : items ≤ 120) (ht : f_X4_readToken (nI len) e0 val rt = some (nx, nI p, s, w)) (h0 : ¬ s = 0) (h : ¬ s = 1 ∨ (s = 1 ∧ ((w = 98 ∧ ¬ bt = 0) ∨ (w = 110 ∧ ¬ nt = 0) ∨ (w = 111 ∧ ¬ nI items = 0) ∨ (w = 115 ∧ 6 ≤ csc) ∨ (¬ w = 98 ∧ ¬ w = 110 ∧ ¬ w = 111 ∧ ¬ w = 115)))) : b_X4_read_21 (nI len) rt (nI items, e0, place, sort, val, bt, nt, cop, cli, cbo, cto, csc, cne, dtu, dbe) = some (.inr ((-10 : Int32) - nI p, nx, nI p, s, w, bt, nt, cop, cli, cbo, cto, csc, cne, dtu, dbe)) := by
  unfold b_X4_read_21
  dsimp only
  rw [if_neg (by rw [l120, nltI (by omega) (by omega)]; omega), ht, bnd_some, if_neg h0]
  dsimp only
  rcases h with h | ⟨h, h2⟩
  · rw [if_neg h]
  · rw [if_pos h]
    rcases h2 with ⟨rfl, h2⟩ | ⟨rfl, h2⟩ | ⟨rfl, h2⟩ | ⟨rfl, h2⟩ | ⟨q1, q2, q3, q4⟩
    · rw [if_pos rfl, if_neg h2]
    · rw [if_neg (by decide), if_pos rfl, if_neg h2]
    · rw [if_neg (by decide), if_neg (by decide), if_pos rfl, if_neg h2]
    · rw [if_neg (by decide), if_neg (by decide), if_neg (by decide), if_pos rfl, if_pos h2]
    · rw [if_neg q1, if_neg q2, if_neg q3, if_neg q4]
theorem bodyC_b {len items : Nat} {rt : Nat → Int32} {e0 place sort val nt cop cli cbo cto csc cne nx0 pl0 : Int32} {dtu dbe : Nat → Int32} {ok nx pl s w b' li' bo' to' : Int32} (hi : items ≤ 120) (ht : f_X4_readToken (nI len) e0 val rt = some (nx0, pl0, 1, 98)) (hr : f_X4_readBook (nI len) nx0 pl0 1 98 rt cop cli cbo cto = some (ok, nx, pl, s, w, b', li', bo', to')) : b_X4_read_21 (nI len) rt (nI items, e0, place, sort, val, 0, nt, cop, cli, cbo, cto, csc, cne, dtu, dbe) = (if ok = 0 then some (.inr ((-10 : Int32) - pl, nx, pl, s, w, b', nt, cop, li', bo', to', csc, cne, dtu, dbe)) else some (.inl (nI (items + 1), nx, pl, s, w, b', nt, cop, li', bo', to', csc, cne, dtu, dbe))) := by
  unfold b_X4_read_21
  dsimp only
  rw [if_neg (by rw [l120, nltI (by omega) (by omega)]; omega), ht, bnd_some, if_neg (show ¬ (1 : Int32) = 0 by decide)]
  dsimp only
  rw [if_pos rfl, if_pos rfl, if_pos rfl, hr, bnd_some, n1]
theorem bodyC_n {len items : Nat} {rt : Nat → Int32} {e0 place sort val bt cop cli cbo cto csc cne nx0 pl0 : Int32} {dtu dbe : Nat → Int32} {ok nx pl s w n' ne' : Int32} (hi : items ≤ 120) (ht : f_X4_readToken (nI len) e0 val rt = some (nx0, pl0, 1, 110)) (hr : f_X4_readNeed (nI len) nx0 110 rt cne = some (ok, nx, pl, s, w, n', ne')) : b_X4_read_21 (nI len) rt (nI items, e0, place, sort, val, bt, 0, cop, cli, cbo, cto, csc, cne, dtu, dbe) = (if ok = 0 then some (.inr ((-10 : Int32) - pl, nx, pl, s, w, bt, n', cop, cli, cbo, cto, csc, ne', dtu, dbe)) else some (.inl (nI (items + 1), nx, pl, s, w, bt, n', cop, cli, cbo, cto, csc, ne', dtu, dbe))) := by
  unfold b_X4_read_21
  dsimp only
  rw [if_neg (by rw [l120, nltI (by omega) (by omega)]; omega), ht, bnd_some, if_neg (show ¬ (1 : Int32) = 0 by decide)]
  dsimp only
  rw [if_pos rfl, if_neg (by decide), if_pos rfl, if_pos rfl, hr, bnd_some, n1]
theorem bodyC_o {len : Nat} {rt : Nat → Int32} {e0 place sort val bt nt cop cli cbo cto csc cne nx0 pl0 : Int32} {dtu dbe : Nat → Int32} {ok nx pl s w op' : Int32} (ht : f_X4_readToken (nI len) e0 val rt = some (nx0, pl0, 1, 111)) (hr : f_X4_readOpinions (nI len) nx0 111 rt cop = some (ok, nx, pl, s, w, op')) : b_X4_read_21 (nI len) rt (nI 0, e0, place, sort, val, bt, nt, cop, cli, cbo, cto, csc, cne, dtu, dbe) = (if ok = 0 then some (.inr ((-10 : Int32) - pl, nx, pl, s, w, bt, nt, op', cli, cbo, cto, csc, cne, dtu, dbe)) else some (.inl (nI (0 + 1), nx, pl, s, w, bt, nt, op', cli, cbo, cto, csc, cne, dtu, dbe))) := by
  unfold b_X4_read_21
  dsimp only
  rw [if_neg (by decide), ht, bnd_some, if_neg (show ¬ (1 : Int32) = 0 by decide)]
  dsimp only
  rw [if_pos rfl, if_neg (by decide), if_neg (by decide), if_pos rfl, if_pos (show nI 0 = 0 from rfl), hr, bnd_some, n1]
theorem bodyC_s {len items S : Nat} {rt : Nat → Int32} {e0 place sort val bt nt cop cli cbo cto cne nx0 pl0 : Int32} {dtu dbe : Nat → Int32} {ok nx pl s w sc' : Int32} {tu' be' : Nat → Int32} (hi : items ≤ 120) (hS : S < 6) (ht : f_X4_readToken (nI len) e0 val rt = some (nx0, pl0, 1, 115)) (hr : f_X4_readScribe (nI len) nx0 115 rt (nI S) dtu dbe = some (ok, nx, pl, s, w, sc', tu', be')) : b_X4_read_21 (nI len) rt (nI items, e0, place, sort, val, bt, nt, cop, cli, cbo, cto, nI S, cne, dtu, dbe) = (if ok = 0 then some (.inr ((-10 : Int32) - pl, nx, pl, s, w, bt, nt, cop, cli, cbo, cto, sc', cne, tu', be')) else some (.inl (nI (items + 1), nx, pl, s, w, bt, nt, cop, cli, cbo, cto, sc', cne, tu', be'))) := by
  unfold b_X4_read_21
  dsimp only
  rw [if_neg (by rw [l120, nltI (by omega) (by omega)]; omega), ht, bnd_some, if_neg (show ¬ (1 : Int32) = 0 by decide)]
  dsimp only
  rw [if_pos rfl, if_neg (by decide), if_neg (by decide), if_neg (by decide), if_pos rfl, if_neg (by rw [l6, nleI (by omega) (by omega)]; omega), hr, bnd_some, n1]
theorem mayBe_d {nt so it : Int32} {mli msc : Nat → Int32} (h1 : ¬ so = 98) (h2 : ¬ so = 110) (h3 : ¬ so = 111) (h4 : ¬ so = 115) : f_X9_mayBe nt mli msc so it = some 0 := by
  unfold f_X9_mayBe
  rw [if_neg h1, if_neg h2, if_neg h3, if_neg h4]
theorem read_sim {len : Nat} {tx : Nat → Nat} {rt text : Nat → Int32} (hc : TXC len tx rt) (hM : TXM len tx text) (tgt mar : Int32) (now ik op0 li0 sc0 ne0 tu0 be0 : Nat → Int32) : ∀ (m e items p : Nat) (r : Int32 × Int32 × Int32 × Int32) (n L S d : Nat) (t b g : Nat → Nat) (place sort val bt nt cop cli cbo cto csc cne : Int32) (dtu dbe mop mli mdb msc mtu mbe mne : Nat → Int32) (N : Nat), len < e + m → e ≤ len → m + 1 ≤ N → items ≤ e → (items = 0 → L = 0) → TK len rt e p r → DR n L S d t b g cop cli cbo cto csc cne dtu dbe bt mop mli mdb msc mtu mbe mne → PZ op0 li0 sc0 ne0 tu0 be0 mop mli msc mne mtu mbe → ∃ R1 R2, lpF (b_X4_read_21 (nI len) rt) N (nI items, nI e, place, sort, val, bt, nt, cop, cli, cbo, cto, csc, cne, dtu, dbe) = some R1 ∧ lpF (b_X9_house_21 (nI len) tgt mar text now ik) N (nI items, nt, r.1, r.2.1, r.2.2.1, r.2.2.2, -9, mop, mli, mdb, msc, mtu, mbe, mne) = some R2 ∧ RR len tgt mar now ik op0 li0 sc0 ne0 tu0 be0 R1 R2
  | 0, e, items, p, r, n, L, S, d, t, b, g, place, sort, val, bt, nt, cop, cli, cbo, cto, csc, cne, dtu, dbe, mop, mli, mdb, msc, mtu, mbe, mne, N, h1, h2, h3, h4, h5, hT, hD, hP => by omega
  | m + 1, e, items, p, r, n, L, S, d, t, b, g, place, sort, val, bt, nt, cop, cli, cbo, cto, csc, cne, dtu, dbe, mop, mli, mdb, msc, mtu, mbe, mne, N, h1, h2, h3, h4, h5, hT, hD, hP => by
    have hl := hc.1
    have hp := hT.2.2.1
    have hpl := hT.1
    obtain ⟨M, rfl⟩ : ∃ M, N = M + 1 + 1 := ⟨N - 2, by omega⟩
    obtain ⟨d1, d2, d3, d4, d5, d6, d7, d8, d9, d10, d11, d12, d13, d14, d15⟩ := id hD
    obtain ⟨g1, g2, g3, g4, g5, g6, g7⟩ := id d1
    -- what cannot stand
    have bad : ∀ nx s w, f_X4_readToken (nI len) (nI e) val rt = some (nx, nI p, s, w) → ¬ s = 0 → (¬ s = 1 ∨ (s = 1 ∧ ((w = 98 ∧ ¬ bt = 0) ∨ (w = 110 ∧ ¬ nt = 0) ∨ (w = 111 ∧ ¬ nI items = 0) ∨ (w = 115 ∧ 6 ≤ csc) ∨ (¬ w = 98 ∧ ¬ w = 110 ∧ ¬ w = 111 ∧ ¬ w = 115)))) → ¬ r.2.2.1 = 3 → f_X9_mayBe nt mli msc r.2.2.1 (nI items) = some 0 → ∃ R1 R2, lpF (b_X4_read_21 (nI len) rt) (M + 1 + 1) (nI items, nI e, place, sort, val, bt, nt, cop, cli, cbo, cto, csc, cne, dtu, dbe) = some R1 ∧ lpF (b_X9_house_21 (nI len) tgt mar text now ik) (M + 1 + 1) (nI items, nt, r.1, r.2.1, r.2.2.1, r.2.2.2, -9, mop, mli, mdb, msc, mtu, mbe, mne) = some R2 ∧ RR len tgt mar now ik op0 li0 sc0 ne0 tu0 be0 R1 R2 := by
      intro nx s w q1 q2 q3 q4 q5
      have hm2 : lpF (b_X9_house_21 (nI len) tgt mar text now ik) (M + 1 + 1) (nI items, nt, r.1, r.2.1, r.2.2.1, r.2.2.2, -9, mop, mli, mdb, msc, mtu, mbe, mne) = some ((-10 : Int32) - nI p, nI len, nt, r.1, nI p, r.2.2.1, r.2.2.2, nI p, tgt, mar, mop, mli, mdb, msc, mtu, mbe, mne, now, ik) := by
        rw [hp, lpF_l (bodyM_bad (by omega) q4 q5)]
        exact house_f (by omega)
      exact ⟨_, _, lpF_r (bodyC_bad (by omega) q1 q2 q3), hm2, Or.inl ⟨p, by omega, ⟨_, _, _, _, _, _, _, _, _, _, _, _, _, _, rfl⟩, _, _, _, _, _, _, _, _, _, _, _, _, _, rfl, hP⟩⟩
    -- a row read
    have step : ∀ {e' : Nat} {nt' a st so' va fa ok nx pl : Int32} {mop' mli' mdb' msc' mtu' mbe' mne' : Nat → Int32} {s w b' n' op' li' bo' to' sc' ne' : Int32} {tu' be' : Nat → Int32}, e < e' → e' ≤ len → AR len rt text e' a st so' va fa ok nx pl → PZ op0 li0 sc0 ne0 tu0 be0 mop' mli' msc' mne' mtu' mbe' → (ok = 1 → n' = nt' ∧ ∃ n L S d t b g, DR n L S d t b g op' li' bo' to' sc' ne' tu' be' b' mop' mli' mdb' msc' mtu' mbe' mne') → (b_X4_read_21 (nI len) rt (nI items, nI e, place, sort, val, bt, nt, cop, cli, cbo, cto, csc, cne, dtu, dbe) = (if ok = 0 then some (.inr ((-10 : Int32) - pl, nx, pl, s, w, b', n', op', li', bo', to', sc', ne', tu', be')) else some (.inl (nI (items + 1), nx, pl, s, w, b', n', op', li', bo', to', sc', ne', tu', be')))) → (∀ x1 x2 x3 x4 x5 x6, dueS len text a st so' va fa = some (x1, x2, x3, x4, x5, x6) → b_X9_house_21 (nI len) tgt mar text now ik (nI items, nt, r.1, r.2.1, r.2.2.1, r.2.2.2, -9, mop, mli, mdb, msc, mtu, mbe, mne) = some (.inl (nI items + 1, nt', x2, x3, x4, x5, x6, mop', mli', mdb', msc', mtu', mbe', mne'))) → ∃ R1 R2, lpF (b_X4_read_21 (nI len) rt) (M + 1 + 1) (nI items, nI e, place, sort, val, bt, nt, cop, cli, cbo, cto, csc, cne, dtu, dbe) = some R1 ∧ lpF (b_X9_house_21 (nI len) tgt mar text now ik) (M + 1 + 1) (nI items, nt, r.1, r.2.1, r.2.2.1, r.2.2.2, -9, mop, mli, mdb, msc, mtu, mbe, mne) = some R2 ∧ RR len tgt mar now ik op0 li0 sc0 ne0 tu0 be0 R1 R2 := by
      intro e' nt' a st so' va fa ok nx pl mop' mli' mdb' msc' mtu' mbe' mne' s w b' n' op' li' bo' to' sc' ne' tu' be' he1 he2 hA hZ hD' hC hMb
      rcases hA with ⟨e2, p2, r2, a1, a2, a3, a4, a5, a6⟩ | ⟨pf, x1, x2, x3, x4, x5, a1, a2, a3, a4⟩
      · subst a5 a6
        obtain ⟨rfl, n2, L2, S2, dd2, t2, b2, gg2, hD2⟩ := hD' rfl
        rw [if_neg one_ne] at hC
        rw [lpF_l hC, lpF_l (hMb _ _ _ _ _ _ a4), n1]
        exact read_sim hc hM tgt mar now ik op0 li0 sc0 ne0 tu0 be0 m e2 (items + 1) p2 r2 n2 L2 S2 dd2 t2 b2 gg2 pl s w b' n' op' li' bo' to' sc' ne' tu' be' mop' mli' mdb' msc' mtu' mbe' mne' (M + 1) (by omega) a2 (by omega) (by omega) (fun z => by omega) a3 hD2 hZ
      · subst a3 a4
        rw [if_pos rfl] at hC
        refine ⟨_, _, lpF_r hC, by rw [lpF_l (hMb _ _ _ _ _ _ a2)]; exact house_f (by omega), Or.inl ⟨pf, by omega, ⟨_, _, _, _, _, _, _, _, _, _, _, _, _, _, rfl⟩, _, _, _, _, _, _, _, _, _, _, _, _, _, rfl, hZ⟩⟩
    obtain ⟨z1, z2, z3, z4, z5⟩ := id hP
    have nc : ∀ {a c : Nat}, a ≤ 122 → c ≤ 122 → a ≠ c → ¬ nI a = nI c := fun ha hb h => ne_of_nI (by omega) (by omega) h
    rcases hT.2.2.2 with ⟨a1, a2⟩ | ⟨v, e', a1, a2, a3, a4, a5, a6, a7⟩ | ⟨v, e', a1, a2, a3, a4, a5, a6, a7⟩ | ⟨e', a1, a2, a3, a4, a5⟩ | ⟨a1, a2⟩
    · -- the end
      obtain ⟨op', li', sc', tu', be', ne', now', ik', k1, k2, k3, k4, k5, k6⟩ := takeDraft_ok (now := now) (ik := ik) d1 d10 d11 d12 d13 d14 d15
      refine ⟨_, _, lpF_r (t := (nI items, nI p, nI p, 0, val, bt, nt, cop, cli, cbo, cto, csc, cne, dtu, dbe)) ?_, lpF_r (t := (nI items, 0, nt, r.1, r.2.1, r.2.2.1, r.2.2.2, -9, nI (cmN n g L), 0, op', li', mdb, sc', tu', be', ne', now', ik')) ?_, Or.inr ⟨items, n, L, S, d, t, b, g, by omega, fun l hl => (d14 l hl).2, ⟨nI p, nI p, 0, val, bt, nt, dtu, dbe, by rw [d2, d3, d4, d5, d6, d7], d1, d8⟩, nt, r.1, r.2.1, r.2.2.1, r.2.2.2, -9, op', li', mdb, sc', tu', be', ne', now', ik', rfl, k2, k3, k4, k5, k6⟩⟩
      · unfold b_X4_read_21
        dsimp only
        rw [if_neg (by rw [l120, nltI (by omega) (by omega)]; omega), a2 val, bnd_some, if_pos rfl]
      · unfold b_X9_house_21
        dsimp only
        rw [if_pos rfl, if_pos a1, if_pos rfl, k1, bnd_some]
    · -- a letter
      have h3' : ¬ r.2.2.1 = 3 := by rw [a6]; exact nc (c := 3) (by omega) (by omega) (by omega)
      obtain ⟨p1, r1, t1, t2⟩ := due_yes (st := r.2.1) (so := r.2.2.1) (va := r.2.2.2) hc hM a2
      rw [← a5] at t2
      by_cases c98 : v = 98
      · subst c98
        by_cases cL : L = 0
        · subst cL
          obtain ⟨a, st, so', va, fa, mli', mdb', ok, nx, pl, s, w, li', bo', to', b1, b2, b3, b4, b5⟩ := row_b hc hM t1 g1 g2 nt mop mli mdb msc mtu mbe mne d10 (nI p) 1 98
          have hbt : bt = 0 := by rw [d9, if_pos rfl]
          subst hbt d2
          have e4 : cbo = nI 1 := d4
          have e5 : cto = nI 0 := d5
          subst d3 e4 e5
          refine step (mli' := mli') a1 a2 b3 ⟨z1, b4.trans z2, z3, z4, z5⟩ (fun hok => ⟨rfl, ?_⟩) (bodyC_b (nt := nt) (by omega) (a7 val) b2) (fun x1 x2 x3 x4 x5 x6 hs => bodyM_ok h3' ?_ t2 (by rw [a6]; exact b1) hs)
          · obtain ⟨l', g', c1, c2, c3, c4, c5, c6, c7⟩ := b5 hok
            exact ⟨n, l', S, d, t, b, g', ⟨g1, g2, c2, g4, g5, g6, g7⟩, rfl, c3, c4, c5, d6, d7, d8, by rw [if_neg (by omega)], d10, c6, d12, d13, c7, d15⟩
          · rw [a6]
            unfold f_X9_mayBe
            rw [if_pos (by rfl), show mli (1 : Int32).toNatClampNeg = nI 0 from d11, if_pos (show nI 0 = 0 from rfl)]
        · refine bad _ _ _ (a7 val) (by decide) (Or.inr ⟨rfl, Or.inl ⟨rfl, ?_⟩⟩) h3' ?_
          · rw [d9, if_neg cL]; decide
          · rw [a6]
            unfold f_X9_mayBe
            rw [if_pos (by rfl), show mli (1 : Int32).toNatClampNeg = nI L from d11, if_neg (show ¬ nI L = (0 : Int32) from nc (c := 0) (by omega) (by omega) cL)]
      · by_cases c110 : v = 110
        · subst c110
          by_cases cn : nt = 0
          · subst cn
            obtain ⟨a, st, so', va, fa, mne', ok, nx, pl, s, w, ne', b1, b2, b3, b4, b5⟩ := row_n hc hM t1 0 mop mli mdb msc mtu mbe mne 110 cne
            refine step (mne' := mne') a1 a2 b3 ⟨z1, z2, z3, b4.trans z4, z5⟩ (fun hok => ⟨rfl, ?_⟩) (bodyC_n (by omega) (a7 val) b2) (fun x1 x2 x3 x4 x5 x6 hs => bodyM_ok h3' ?_ t2 (by rw [a6]; exact b1) hs)
            · obtain ⟨d', c1, c2, c3, c4⟩ := b5 hok
              exact ⟨n, L, S, d', t, b, g, ⟨g1, g2, g3, g4, c1, c2, g7⟩, d2, d3, d4, d5, d6, c3, d8, d9, d10, d11, d12, c4, d14, d15⟩
            · rw [a6]
              unfold f_X9_mayBe
              rw [if_neg (by decide), if_pos (by rfl), if_pos rfl]
          · refine bad _ _ _ (a7 val) (by decide) (Or.inr ⟨rfl, Or.inr (Or.inl ⟨rfl, cn⟩)⟩) h3' ?_
            rw [a6]
            unfold f_X9_mayBe
            rw [if_neg (by decide), if_pos (by rfl), if_neg cn]
        · by_cases c111 : v = 111
          · subst c111
            by_cases ci : items = 0
            · subst ci
              have hL0 := h5 rfl
              subst hL0
              obtain ⟨a, st, so', va, fa, mop', ok, nx, pl, s, w, op', b1, b2, b3, b4, b5⟩ := row_o hc hM t1 nt mop mli mdb msc mtu mbe mne 111 cop
              refine step (mop' := mop') a1 a2 b3 ⟨b4.trans z1, z2, z3, z4, z5⟩ (fun hok => ⟨rfl, ?_⟩) (bodyC_o (a7 val) b2) (fun x1 x2 x3 x4 x5 x6 hs => bodyM_ok h3' ?_ t2 (by rw [a6]; exact b1) hs)
              · obtain ⟨n', c1, c2, c3, c4⟩ := b5 hok
                exact ⟨n', 0, S, d, t, b, g, ⟨c1, c2, g3, g4, g5, g6, g7⟩, c3, d3, d4, d5, d6, d7, d8, d9, c4, d11, d12, d13, fun l hl => by omega, d15⟩
              · rw [a6]
                unfold f_X9_mayBe
                rw [if_neg (by decide), if_neg (by decide), if_pos (by rfl), if_pos (show nI 0 = 0 from rfl)]
            · have ci' : ¬ nI items = 0 := nc (c := 0) (by omega) (by omega) ci
              refine bad _ _ _ (a7 val) (by decide) (Or.inr ⟨rfl, Or.inr (Or.inr (Or.inl ⟨rfl, ci'⟩))⟩) h3' ?_
              rw [a6]
              unfold f_X9_mayBe
              rw [if_neg (by decide), if_neg (by decide), if_pos (by rfl), if_neg ci']
          · by_cases c115 : v = 115
            · subst c115
              by_cases cS : S < 6
              · obtain ⟨a, st, so', va, fa, x, y, ok, nx, pl, s, w, sc', tu', be', b1, b2, b3, b4⟩ := row_s hc hM t1 cS nt mop mli mdb msc mtu mbe mne d12 115 dtu dbe
                subst d6
                refine step (msc' := upd msc 1 (nI (S + 1))) (mtu' := upd mtu (6 + S) x) (mbe' := upd mbe (6 + S) y) a1 a2 b3 ⟨z1, z2, by rw [upd_ne (by decide)]; exact z3, z4, fun s hs => by rw [upd_ne (by omega), upd_ne (by omega)]; exact z5 s hs⟩ (fun hok => ⟨rfl, ?_⟩) (bodyC_s (by omega) cS (a7 val) b2) (fun x1 x2 x3 x4 x5 x6 hs => bodyM_ok h3' ?_ t2 (by rw [a6]; exact b1) hs)
                · obtain ⟨T, B, c1, c2, c3, c4, c5, c6, c7⟩ := b4 hok
                  subst c4 c5 c6 c7
                  refine ⟨n, L, S + 1, d, (fun s => if s = S then T else t s), (fun s => if s = S then B else b s), g, ⟨g1, g2, g3, by omega, g5, g6, fun s hs => ?_⟩, d2, d3, d4, d5, c3, d7, fun s hs => ?_, d9, d10, d11, upd_eq, d13, d14, fun s hs => ?_⟩
                  · by_cases q : s = S
                    · subst q; dsimp only; rw [if_pos rfl, if_pos rfl]; exact ⟨c1, c2⟩
                    · dsimp only; rw [if_neg q, if_neg q]; exact g7 s (by omega)
                  · by_cases q : s = S
                    · subst q; dsimp only; rw [if_pos rfl, if_pos rfl, upd_eq, upd_eq]; exact ⟨rfl, rfl⟩
                    · dsimp only; rw [if_neg q, if_neg q, upd_ne q, upd_ne q]; exact d8 s (by omega)
                  · by_cases q : s = S
                    · subst q; dsimp only; rw [if_pos rfl, if_pos rfl, upd_eq, upd_eq]; exact ⟨rfl, rfl⟩
                    · dsimp only; rw [if_neg q, if_neg q, upd_ne (by omega), upd_ne (by omega)]; exact d15 s (by omega)
                · rw [a6]
                  unfold f_X9_mayBe
                  rw [if_neg (by decide), if_neg (by decide), if_neg (by decide), if_pos (by rfl), show msc (1 : Int32).toNatClampNeg = nI S from d12, if_neg (by rw [l6, nleI (by omega) (by omega)]; omega)]
              · refine bad _ _ _ (a7 val) (by decide) (Or.inr ⟨rfl, Or.inr (Or.inr (Or.inr (Or.inl ⟨rfl, ?_⟩)))⟩) h3' ?_
                · rw [d6, l6, nleI (by omega) (by omega)]; omega
                · rw [a6]
                  unfold f_X9_mayBe
                  rw [if_neg (by decide), if_neg (by decide), if_neg (by decide), if_pos (by rfl), show msc (1 : Int32).toNatClampNeg = nI S from d12, if_pos (by rw [l6, nleI (by omega) (by omega)]; omega)]
            · have w1 : ¬ nI v = 98 := nc (c := 98) (by omega) (by omega) c98
              have w2 : ¬ nI v = 110 := nc (c := 110) (by omega) (by omega) c110
              have w3 : ¬ nI v = 111 := nc (c := 111) (by omega) (by omega) c111
              have w4 : ¬ nI v = 115 := nc (c := 115) (by omega) (by omega) c115
              exact bad _ _ _ (a7 val) (by decide) (Or.inr ⟨rfl, Or.inr (Or.inr (Or.inr (Or.inr ⟨w1, w2, w3, w4⟩)))⟩) h3' (by rw [a6]; exact mayBe_d w1 w2 w3 w4)
    · exact bad _ _ _ (a7 val) (by decide) (Or.inl (by decide)) (by rw [a5]; decide) (by rw [a5]; exact mayBe_d (by decide) (by decide) (by decide) (by decide))
    · exact bad _ _ _ (a5 val) (by decide) (Or.inl (by decide)) (by rw [a4]; decide) (by rw [a4]; exact mayBe_d (by decide) (by decide) (by decide) (by decide))
    · obtain ⟨nx, s, w, b1, b2⟩ := a2 val
      refine bad _ _ _ b1 ?_ ?_ (by rw [a1]; decide) (by rw [a1]; exact mayBe_d (by decide) (by decide) (by decide) (by decide))
      · rcases b2 with b2 | ⟨b2, -⟩ <;> rw [b2] <;> decide
      · rcases b2 with b2 | ⟨b2, b3⟩
        · exact Or.inl (by rw [b2]; decide)
        · exact Or.inr ⟨b2, Or.inr (Or.inr (Or.inr (Or.inr (by rw [b3]; decide))))⟩
/-- both read the text -/
theorem read_ok {len : Nat} {tx : Nat → Nat} {rt text : Nat → Int32} (hc : TXC len tx rt) (hM : TXM len tx text) (tgt mar : Int32) (now ik mop mli mdb msc mtu mbe mne : Nat → Int32) (place sort val : Int32) (dtu dbe : Nat → Int32) : ∃ R1 R2, f_X4_read (nI len) place sort val rt dtu dbe = some R1 ∧ f_X9_house (nI len) tgt mar text mop mli mdb msc mtu mbe mne now ik = some R2 ∧ RR len tgt mar now ik mop mli msc mne mtu mbe R1 R2 := by
  have hl := hc.1
  obtain ⟨p, r, h1, h2⟩ := token_ok hc hM (Nat.zero_le len)
  unfold f_X4_read f_X9_house
  rw [show f_X0_begin = some ((5 : Int32), (0 : Int32), (1 : Int32), (0 : Int32), (0 : Int32), (1 : Int32)) from rfl, bnd_some, show f_X9_plain mop mli msc mne = some ((0 : Int32), upd mop 1 (nI 5), upd mli 1 (nI 0), upd msc 1 (nI 0), upd mne 1 (nI 1)) from rfl, bnd_some, show f_X9_step (nI len) (0 : Int32) text = some r from h1, bnd_some]
  exact read_sim hc hM tgt mar now ik mop mli msc mne mtu mbe (len + 1) 0 0 p r 5 0 0 1 (fun _ => 0) (fun _ => 0) (fun _ => 0) place sort val 0 0 5 0 1 0 0 1 dtu dbe (upd mop 1 (nI 5)) (upd mli 1 (nI 0)) mdb (upd msc 1 (nI 0)) mtu mbe (upd mne 1 (nI 1)) 30000 (by omega) (by omega) (by omega) (by omega) (fun _ => rfl) h2 ⟨⟨by omega, by omega, by omega, by omega, by omega, by omega, fun s hs => by omega⟩, rfl, rfl, rfl, rfl, rfl, rfl, fun s hs => by omega, rfl, upd_eq, upd_eq, upd_eq, upd_eq, fun l hl => by omega, fun s hs => by omega⟩ ⟨upd_ne (by decide), upd_ne (by decide), upd_ne (by decide), upd_ne (by decide), fun s hs => ⟨rfl, rfl⟩⟩
