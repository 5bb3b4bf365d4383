/-! ===== 4: the house told anew; 1: a new object ===== -/
theorem begin_ok {T : Nat} (rows : Nat → Nat → Int32) : ∃ rows', f_X6_begin rows (nI T) = some (nI 0, rows') ∧ rows' 0 0 = nI T ∧ ∀ j, 1 ≤ j → j < 9 → rows' 0 j = nI 0 := by
  unfold f_X6_begin
  obtain ⟨r, e1, rows', e2, e3, e4⟩ := lp_IU (B := b_X6_begin_7 (0 : Int32) (nI T)) (I := fun z => ∃ i g, i ≤ 9 ∧ z = (nI i, g) ∧ ∀ j, j < i → g 0 j = nI 0) (μ := fun z => 9 - z.1.toNatClampNeg) (P := fun r => ∃ rows', r = (nI 0, rows') ∧ rows' 0 0 = nI T ∧ ∀ j, 1 ≤ j → j < 9 → rows' 0 j = nI 0) (fun z hz => by
    obtain ⟨i, g, hi, rfl, hg⟩ := hz
    unfold b_X6_begin_7
    dsimp only
    by_cases e : 9 ≤ i
    · right
      rw [if_pos (by rw [l9, nleI (by omega) (by omega)]; exact e), l0, put_ok (K := 0) (by decide) (by decide), bnd_some]
      refine ⟨_, rfl, _, rfl, ?_, fun j hj hj9 => ?_⟩
      · rw [vaup_eq, upd_eq]
      · rw [vaup_eq, upd_ne (by omega)]
        exact hg j (by omega)
    · left
      rw [if_neg (by rw [l9, nleI (by omega) (by omega)]; exact e), l0, put_ok (K := 0) (j := i) (by decide) (by omega), bnd_some, n1]
      refine ⟨_, rfl, ⟨i + 1, _, by omega, rfl, fun j hj => ?_⟩, ?_⟩
      · rw [vaup_eq]
        by_cases ej : j = i
        · subst ej; rw [upd_eq]
        · rw [upd_ne ej]; exact hg j (by omega)
      · dsimp only; rw [nI_clamp (by omega), nI_clamp (by omega)]; omega) ((0 : Int32), rows) ⟨0, rows, by decide, rfl, fun j hj => absurd hj (Nat.not_lt_zero j)⟩ (by show 9 - _ < _; omega)
  exact ⟨rows', by rw [e1, e2], e3, e4⟩
theorem SD_new {B S T : Nat} {rows : Nat → Nat → Int32} {now : Nat → Int32} (hT : T < B) (h0 : rows 0 0 = nI T) (h1 : ∀ j, 1 ≤ j → j < 9 → rows 0 j = nI 0) (n0 : now 0 = nI T) (n1 : ∀ j, 1 ≤ j → j < 10 → now j = nI 0) : SD B S 0 0 rows now := by
  refine ⟨n1 9 (by decide) (by decide), by decide, fun j hj => ?_, fun i hi => absurd hi (Nat.not_lt_zero i), fun i hi => ?_⟩
  · by_cases e : j = 0
    · subst e; rw [h0, ← n0]; rfl
    · have hp : 1 ≤ psi j := by
        unfold psi
        by_cases c1 : j < 2
        · rw [if_pos c1]; omega
        · rw [if_neg c1]
          by_cases c2 : j = 2
          · rw [if_pos c2]; decide
          · rw [if_neg c2]; omega
      have hp2 := psi_lt hj
      rw [h1 j (by omega) hj, Nat.zero_add]
      exact n1 _ hp (by omega)
  · have : i = 0 := by omega
    subst this
    exact ⟨⟨T, h0, hT⟩, ⟨0, h1 1 (by decide) (by decide), by decide⟩, 0, h1 2 (by decide) (by decide), Nat.pow_pos (by decide)⟩
theorem PZ_MH {n L S d : Nat} {t b : Nat → Nat} {op li sc ne tu be mop mli msc mne mtu mbe : Nat → Int32} (h : MH n L S d t b op li sc ne tu be) (z : PZ op li sc ne tu be mop mli msc mne mtu mbe) : MH n L S d t b mop mli msc mne mtu mbe := by
  obtain ⟨h0, h1, h2, h3, h4, h5⟩ := h
  obtain ⟨z1, z2, z3, z4, z5⟩ := z
  refine ⟨h0, by rw [z1, h1], by rw [z2, h2], by rw [z3, h3], by rw [z4, h4], fun s hs => ?_⟩
  have hS := h0.2.2.2.1
  rw [(z5 s (by omega)).1, (z5 s (by omega)).2]
  exact h5 s hs
theorem neg10 : ∀ pf, pf < 121 → ¬ (0 : Int32) ≤ (-10 : Int32) - nI pf := by decide +kernel
theorem step_house {n L S d len : Nat} {t b tx : Nat → Nat} {op li sc ne tu be : Nat → Int32} {rt text : Nat → Int32} (hM : MH n L S d t b op li sc ne tu be) (hc : TXC len tx rt) (hm : TXM len tx text) (kZ kO tgt : Int32) (dtu dbe : Nat → Int32) (place sort val lsc lbk : Int32) (made : Nat → Int32) (kn : Int32) (rows : Nat → Nat → Int32) (msz : Int32) (ah ad : Nat) (mtgt mar : Int32) (mdb now ik : Nat → Int32) :
    (∃ r c1 c2 c3 c4 c5 c6 dtu' dbe' x1 x2 x3 x4 x5 x6 nt a st so va fa op' li' mdb' sc' tu' be' ne',
      f_X8_house kZ kO tgt dtu dbe (nI len) place sort val rt lsc lbk made kn rows msz ah ad = some (r, kZ, kO, tgt, c1, c2, c3, c4, c5, c6, dtu', dbe', nI len, x1, x2, x3, x4, x5, x6, lsc, lbk, made, kn, rows, msz, ah, ad) ∧
      f_X9_house (nI len) mtgt mar text op li mdb sc tu be ne now ik = some (r, nI len, nt, a, st, so, va, fa, mtgt, mar, op', li', mdb', sc', tu', be', ne', now, ik) ∧ MH n L S d t b op' li' sc' ne' tu' be') ∨
    (∃ r n' L' S' d' t' b' T dtu' dbe' x1 x2 x3 x4 x5 x6 made' rows' nt a st so va fa op' li' mdb' sc' tu' be' ne' now' ik',
      f_X8_house kZ kO tgt dtu dbe (nI len) place sort val rt lsc lbk made kn rows msz ah ad = some (r, 0, 0, nI T, nI n', nI L', nI (n' ^ L'), nI T, nI S', nI d', dtu', dbe', nI 0, x1, x2, x3, x4, x5, x6, nI S', nI (n' ^ L'), made', nI 0, rows', nI 0, ad, ah) ∧
      f_X9_house (nI len) mtgt mar text op li mdb sc tu be ne now ik = some (r, nI 0, nt, a, st, so, va, fa, nI T, nI 0, op', li', mdb', sc', tu', be', ne', now', ik') ∧
      CH n' L' S' d' t' b' dtu' dbe' ∧ MH n' L' S' d' t' b' op' li' sc' ne' tu' be' ∧ LWT n' L' S' d' t' b' made' ∧ SD (n' ^ L') S' 0 0 rows' now' ∧ T < n' ^ L' ∧ ik' 0 = 0 ∧ ik' 1 = 0) := by
  obtain ⟨R1, R2, q1, q2, q3⟩ := read_ok hc hm mtgt mar now ik op li mdb sc tu be ne place sort val dtu dbe
  unfold f_X8_house
  rw [q1, q2, bnd_some]
  rcases q3 with ⟨pf, hp, ⟨x1, x2, x3, x4, x5, x6, c1, c2, c3, c4, c5, c6, dtu', dbe', rfl⟩, nt, a, st, so, va, fa, mop, mli, mdb', msc, mtu, mbe, mne, rfl, hz⟩ | ⟨items, n', L', S', d', t', b', g, hi, hg, ⟨x1, x2, x3, x4, x5, x6, dtu', dbe', rfl, hCH⟩, nt, a, st, so, va, fa, op', li', mdb', sc', tu', be', ne', now', ik', rfl, hMH, k1, k2, k3, k4⟩
  · left
    dsimp only
    rw [if_neg (neg10 pf (by omega))]
    exact ⟨_, c1, c2, c3, c4, c5, c6, dtu', dbe', x1, x2, x3, x4, x5, x6, nt, a, st, so, va, fa, mop, mli, mdb', msc, mtu, mbe, mne, rfl, rfl, PZ_MH hM hz⟩
  · right
    have hT : cmN n' g L' < n' ^ L' := cmN_lt hg L' (Nat.le_refl _)
    obtain ⟨made', u1, u2⟩ := learn_ok hCH made
    obtain ⟨rows', v1, v2, v3⟩ := begin_ok (T := cmN n' g L') rows
    dsimp only
    rw [if_pos (nI_pos' (by omega)), show f_X4_empty (nI len) = some (nI len, nI 0) from rfl, bnd_some, u1, bnd_some, v1, bnd_some, show f_X2_empty msz = some (msz, nI 0) from rfl, bnd_some]
    exact ⟨_, n', L', S', d', t', b', cmN n' g L', dtu', dbe', x1, x2, x3, x4, x5, x6, made', rows', nt, a, st, so, va, fa, op', li', mdb', sc', tu', be', ne', now', ik', rfl, rfl, hCH, hMH, u2, SD_new hT v2 v3 k1 k2, hT, k3, k4⟩
/-- the reference's draft at its making -/
theorem init_ok : ∃ qp qt, f_X9_plain (fun _ => 0) (fun _ => 0) (fun _ => 0) (fun _ => 0) = some qp ∧ f_X9_takeDraft qp.2.1 qp.2.2.1 (fun _ => 0) qp.2.2.2.1 (fun _ => 0) (fun _ => 0) qp.2.2.2.2 (fun _ => 0) (fun _ => 0) = some qt ∧ qt.1 = nI 0 ∧ qt.2.1 = nI 0 ∧ MH 5 0 0 1 (fun _ => 0) (fun _ => 0) qt.2.2.1 qt.2.2.2.1 qt.2.2.2.2.1 qt.2.2.2.2.2.2.2.1 qt.2.2.2.2.2.1 qt.2.2.2.2.2.2.1 ∧ SD (5 ^ 0) 0 0 0 (fun _ _ => 0) qt.2.2.2.2.2.2.2.2.1 ∧ qt.2.2.2.2.2.2.2.2.2 0 = 0 ∧ qt.2.2.2.2.2.2.2.2.2 1 = 0 := by
  obtain ⟨op', li', sc', tu', be', ne', now', ik', k0, k1, k2, k3, k4, k5⟩ := takeDraft_ok (n := 5) (L := 0) (S := 0) (d := 1) (t := fun _ => 0) (b := fun _ => 0) (g := fun _ => 0) (mop := upd (fun _ => 0) 1 (nI 5)) (mli := upd (fun _ => 0) 1 (nI 0)) (mdb := fun _ => 0) (msc := upd (fun _ => 0) 1 (nI 0)) (mtu := fun _ => 0) (mbe := fun _ => 0) (mne := upd (fun _ => 0) 1 (nI 1)) (now := fun _ => 0) (ik := fun _ => 0) ⟨by decide, by decide, by decide, by decide, by decide, by decide, fun s hs => absurd hs (Nat.not_lt_zero s)⟩ upd_eq upd_eq upd_eq upd_eq (fun l hl => absurd hl (Nat.not_lt_zero l)) (fun s hs => absurd hs (Nat.not_lt_zero s))
  exact ⟨(0, upd (fun _ => 0) 1 (nI 5), upd (fun _ => 0) 1 (nI 0), upd (fun _ => 0) 1 (nI 0), upd (fun _ => 0) 1 (nI 1)), _, rfl, k0, rfl, rfl, k1, SD_new (by decide) rfl (fun _ _ _ => rfl) k2 k3, k4, k5⟩
