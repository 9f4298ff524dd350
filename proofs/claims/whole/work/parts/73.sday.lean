/-! STEPS: clock, counts, sun, letter, turns, paid -/
theorem p_inN (x : Int32) (a b : Int64) (lo hi : Int) (ha : a.toInt = lo) (hb : b.toInt = hi) : g_X11_in x.toInt64 a b = some (if lo ≤ x.toInt ∧ x.toInt ≤ hi then 1 else 0) := by rw [p_in, ha, hb]
theorem p_isInZ (x a b : Int32) (lo hi : Int) (ha : a.toInt = lo) (hb : b.toInt = hi) : g_X10_isIn x a b = some (if lo ≤ x.toInt ∧ x.toInt ≤ hi then 1 else 0) := by rw [p_isIn, ha, hb]
theorem n_pm1 {n : Nat} (h : n < 2 ^ 30) : (nI n - 1).toInt = (n : Int) - 1 := by
  rw [show (1 : Int32) = nI 1 from rfl, pk_sub_toInt h (by decide)]
  rfl
theorem i32c {x : Int32} (h : 0 ≤ x.toInt) {n : Nat} (h2 : x.toInt ≤ n) : ∃ k, k ≤ n ∧ x = nI k := ⟨x.toInt.toNat, by omega, (n_to h).1⟩
theorem p_valley (x : Int32) : g_X10_isValley x = some (if 0 ≤ x.toInt ∧ x.toInt ≤ 1 then 1 else 0) := by
  unfold g_X10_isValley
  rw [p_isInZ x 0 1 0 1 rfl rfl]
  by_cases h : 0 ≤ x.toInt ∧ x.toInt ≤ 1
  · rw [if_pos h]; rfl
  · rw [if_neg h]; rfl
theorem zp_clock : zstep_clock Inv := by
  intro I Aa J V h a1 a2
  obtain ⟨hS, hT, hR, hI, hF, ⟨hr, hd, hg⟩, hp⟩ := h
  have hS' := hS
  obtain ⟨np, nt, nd, ns, nr, hG, hC⟩ := hS
  unfold g_X10_clock g_X11_clock g_X10_clock_18 g_X11_clock_22
  rw [p_valley, p_isInZ a2 0 240 0 240 rfl rfl, p_inN a1 0 1 0 1 rfl rfl, p_inN a2 0 240 0 240 rfl rfl, hr2, hm2]
  simp only [pb_some, ite10]
  by_cases e1 : 0 ≤ a1.toInt ∧ a1.toInt ≤ 1
  · rw [if_neg (not_not_intro e1), if_neg (not_not_intro e1)]
    by_cases e2 : 0 ≤ a2.toInt ∧ a2.toInt ≤ 240
    · rw [if_neg (not_not_intro e2), if_neg (not_not_intro e2)]
      obtain ⟨v, hv, rfl⟩ := i32c e1.1 (n := 1) e1.2
      obtain ⟨m, hm, rfl⟩ := i32c e2.1 (n := 240) e2.2
      obtain ⟨size', pl', fault', row', T', C0', C1', kn', st', tv, x1, x2, x3, x4⟩ := x_prepare hG hC (I 16) hr hd (Aa 17) (J 0)
      obtain ⟨a', b', p', H', W', A', C', N', T2, S', m1, m2⟩ := m_wind hG x2 31 (I 45) (I 46) (I 47) (Aa 55) (Aa 54) (Aa 53) (Aa 56) (Aa 57) (Aa 58) (J 2)
      rw [x1, m1, pb_some, pb_some]
      dsimp only
      rw [dok_clock x3 v m hv hm, pb_some]
      simp (disch := omega) only [n_z1, n_z2, n_z3, n_z4, n_z5, n_z6, n_z7, n_z8, n_leL, n_leR, n_ltL, n_ltR, n_eqL, n_eqR, n_m1R, n_addL, n_addR, n_mulL, n_mulR, n_subR, n_subL, n_add, n_mul, n_neg, n_sub, n_le, n_lt, n_eq, nI_clamp, if_true, if_false, if_pos, if_neg, or_false, false_or, not_false_eq_true, not_true_eq_false]
      refine ⟨_, _, rfl, rfl, ?_, hS', hT, hR, hI, hF, ic_prep hG hg x2 x3 x4, hp⟩
      exact (m2.1 v hv m hm).symm
    · rw [if_pos e2, if_pos e2]
      exact ⟨_, _, rfl, rfl, rfl, hS', hT, iR_0 hR, hI, hF, ⟨hr, hd, hg⟩, hp⟩
  · rw [if_pos e1, if_pos e1]
    exact ⟨_, _, rfl, rfl, rfl, hS', hT, iR_0 hR, hI, hF, ⟨hr, hd, hg⟩, hp⟩
theorem zp_counts : zstep_counts Inv := by
  intro I Aa J V h a1 a2
  obtain ⟨hS, hT, hR, hI, hF, ⟨hr, hd, hg⟩, hp⟩ := h
  have hS' := hS
  obtain ⟨np, nt, nd, ns, nr, hG, hC⟩ := hS
  have hb := hG.1
  have hs0 := hC.1.1
  have hw3 := hG.2.1.1
  have hq : (Int32.toInt64 (Aa 45 3 - 1)).toInt = (np : Int) - 1 := by rw [Int32.toInt_toInt64, hw3, n_pm1 (by omega)]
  unfold g_X10_counts g_X11_counts g_X10_counts_31 g_X11_counts_30 g_X7_size
  rw [pb_some, p_isInZ a1 0 (I 0 - 1) 0 ((np : Int) - 1) rfl (by rw [hs0, n_pm1 (by omega)]), p_isInZ a2 0 239 0 239 rfl rfl, p_inN a1 _ _ 0 ((np : Int) - 1) rfl hq, p_inN a2 0 239 0 239 rfl rfl, hr2, hm2]
  simp only [pb_some, ite10]
  by_cases e1 : 0 ≤ a1.toInt ∧ a1.toInt ≤ (np : Int) - 1
  · rw [if_neg (not_not_intro e1), if_neg (not_not_intro e1)]
    by_cases e2 : 0 ≤ a2.toInt ∧ a2.toInt ≤ 239
    · rw [if_neg (not_not_intro e2), if_neg (not_not_intro e2)]
      obtain ⟨p, hp2, rfl⟩ := i32c e1.1 (n := np - 1) (by omega)
      obtain ⟨m, hm, rfl⟩ := i32c e2.1 (n := 239) e2.2
      rw [nI_toInt (by omega)] at e1
      obtain ⟨size', pl', fault', row', T', C0', C1', kn', st', tv, x1, x2, x3, x4⟩ := x_prepare hG hC (I 16) hr hd (Aa 17) (J 0)
      obtain ⟨a', b', p', H', W', A', C', N', T2, S', m1, m2⟩ := m_wind hG x2 31 (I 45) (I 46) (I 47) (Aa 55) (Aa 54) (Aa 53) (Aa 56) (Aa 57) (Aa 58) (J 2)
      obtain ⟨v, hv, hv2⟩ : ∃ v, v ≤ 1 ∧ Aa 45 (18 + p) = nI v := by
        obtain ⟨v, h1, h2⟩ := i32c (rg_pg hG p (by omega)).2.1 (n := 1) (rg_pg hG p (by omega)).2.2
        exact ⟨v, h1, h2⟩
      obtain ⟨kn2, st2, x5⟩ := x_counted (SE := Aa 5) (rg_tx hG).1 hb.1 (rg_pg hG) hC.2.2.2.1 hC.2.1 x2 x3 p m v (by omega) (by omega) hv2 hv kn' st'
      rw [x1, m1, pb_some, pb_some]
      dsimp only
      rw [hs0, x5, pb_some]
      simp (disch := omega) only [n_z1, n_z2, n_z3, n_z4, n_z5, n_z6, n_z7, n_z8, n_leL, n_leR, n_ltL, n_ltR, n_eqL, n_eqR, n_m1R, n_addL, n_addR, n_mulL, n_mulR, n_subR, n_subL, n_add, n_mul, n_neg, n_sub, n_le, n_lt, n_eq, nI_clamp, if_true, if_false, if_pos, if_neg, or_false, false_or, not_false_eq_true, not_true_eq_false]
      refine ⟨_, _, rfl, rfl, ?_, hS', hT, hR, hI, hF, ic_prep hG hg x2 x3 x4, hp⟩
      exact (m2.2 p (by omega) m (by omega) v hv hv2).symm
    · rw [if_pos e2, if_pos e2]
      exact ⟨_, _, rfl, rfl, rfl, hS', hT, iR_0 hR, hI, hF, ⟨hr, hd, hg⟩, hp⟩
  · rw [if_pos e1, if_pos e1]
    exact ⟨_, _, rfl, rfl, rfl, hS', hT, iR_0 hR, hI, hF, ⟨hr, hd, hg⟩, hp⟩
theorem zp_sun : zstep_sun Inv := by
  intro I Aa J V h a1 a2
  obtain ⟨hS, hT, hR, hI, hF, ⟨hr, hd, hg⟩, hp⟩ := h
  have hS' := hS
  obtain ⟨np, nt, nd, ns, nr, hG, hC⟩ := hS
  unfold g_X10_sun g_X11_sun g_X10_sun_18 g_X11_sun_22
  rw [p_valley, p_isInZ a2 0 999 0 999 rfl rfl, p_inN a1 0 1 0 1 rfl rfl, p_inN a2 0 999 0 999 rfl rfl, hr2, hm2]
  simp only [pb_some, ite10]
  by_cases e1 : 0 ≤ a1.toInt ∧ a1.toInt ≤ 1
  · rw [if_neg (not_not_intro e1), if_neg (not_not_intro e1)]
    by_cases e2 : 0 ≤ a2.toInt ∧ a2.toInt ≤ 999
    · rw [if_neg (not_not_intro e2), if_neg (not_not_intro e2)]
      obtain ⟨v, hv, rfl⟩ := i32c e1.1 (n := 1) e1.2
      obtain ⟨size', pl', fault', row', T', C0', C1', kn', st', tv, x1, x2, x3, x4⟩ := x_prepare hG hC (I 16) hr hd (Aa 17) (J 0)
      obtain ⟨a', b', p', H', W', A', C', N', T2, S', m1, m2⟩ := m_wind hG x2 31 (I 45) (I 46) (I 47) (Aa 55) (Aa 54) (Aa 53) (Aa 56) (Aa 57) (Aa 58) (J 2)
      rw [x1, m1, pb_some, pb_some]
      dsimp only
      rw [x_first x3 v hv, m_first m2 v hv, pb_some, pb_some]
      exact ⟨_, _, rfl, rfl, rfl, hS', hT, hR, hI, hF, ic_prep hG hg x2 x3 x4, hp⟩
    · rw [if_pos e2, if_pos e2]
      exact ⟨_, _, rfl, rfl, rfl, hS', hT, iR_0 hR, hI, hF, ⟨hr, hd, hg⟩, hp⟩
  · rw [if_pos e1, if_pos e1]
    exact ⟨_, _, rfl, rfl, rfl, hS', hT, iR_0 hR, hI, hF, ⟨hr, hd, hg⟩, hp⟩
theorem zp_letter : zstep_letter Inv := by
  intro I Aa J V h a1 a2 a3
  obtain ⟨hS, hT, hR, hI, hF, ⟨hr, hd, hg⟩, hp⟩ := h
  have hS' := hS
  obtain ⟨np, nt, nd, ns, nr, hG, hC⟩ := hS
  unfold g_X10_letter g_X11_letter g_X10_letter_29 g_X11_letter_34 g_X11_letter_71
  rw [p_valley, p_isInZ a2 0 999 0 999 rfl rfl, p_isInZ a3 0 240 0 240 rfl rfl, p_inN a1 0 1 0 1 rfl rfl, p_inN a2 0 999 0 999 rfl rfl, p_inN a3 0 240 0 240 rfl rfl, hr2, hm2]
  simp only [pb_some, ite10]
  by_cases e1 : 0 ≤ a1.toInt ∧ a1.toInt ≤ 1
  · rw [if_neg (not_not_intro e1), if_neg (not_not_intro e1)]
    by_cases e2 : 0 ≤ a2.toInt ∧ a2.toInt ≤ 999
    · rw [if_neg (not_not_intro e2), if_neg (not_not_intro e2)]
      by_cases e3 : 0 ≤ a3.toInt ∧ a3.toInt ≤ 240
      · rw [if_neg (not_not_intro e3), if_neg (not_not_intro e3)]
        obtain ⟨v, hv, rfl⟩ := i32c e1.1 (n := 1) e1.2
        obtain ⟨l, hl, rfl⟩ := i32c e3.1 (n := 240) e3.2
        obtain ⟨size', pl', fault', row', T', C0', C1', kn', st', tv, x1, x2, x3, x4⟩ := x_prepare hG hC (I 16) hr hd (Aa 17) (J 0)
        obtain ⟨a', b', p', H', W', A', C', N', T2, S', m1, m2⟩ := m_wind hG x2 31 (I 45) (I 46) (I 47) (Aa 55) (Aa 54) (Aa 53) (Aa 56) (Aa 57) (Aa 58) (J 2)
        rw [x1, m1, pb_some, pb_some]
        dsimp only
        rw [x_first x3 v hv, m_first m2 v hv, pb_some, pb_some]
        rcases fm_cases (fun m => cw (Aa 45) tv 31 nt np v m) a2 241 0 with e | ⟨j, _, hj, e⟩ <;> rw [e]
        · rw [if_pos rfl, if_pos rfl]
          exact ⟨_, _, rfl, rfl, rfl, hS', hT, hR, hI, hF, ic_prep hG hg x2 x3 x4, hp⟩
        · by_cases e4 : j + l ≤ 240
          · simp (disch := omega) only [n_z1, n_z2, n_z3, n_z4, n_z5, n_z6, n_z7, n_z8, n_leL, n_leR, n_ltL, n_ltR, n_eqL, n_eqR, n_m1R, n_addL, n_addR, n_mulL, n_mulR, n_subR, n_subL, n_add, n_mul, n_neg, n_sub, n_le, n_lt, n_eq, nI_clamp, if_true, if_false, if_pos, if_neg, or_false, false_or, not_false_eq_true, not_true_eq_false]
            rw [dok_clock x3 (1 - v) (j + l) (by omega) e4, pb_some]
            refine ⟨_, _, rfl, rfl, ?_, hS', hT, hR, hI, hF, ic_prep hG hg x2 x3 x4, hp⟩
            have := m2.1 (1 - v) (by omega) (j + l) e4
            rw [show 241 * (1 - v) + (j + l) = 241 * (1 - v) + j + l by omega] at this
            exact this.symm
          · simp (disch := omega) only [n_z1, n_z2, n_z3, n_z4, n_z5, n_z6, n_z7, n_z8, n_leL, n_leR, n_ltL, n_ltR, n_eqL, n_eqR, n_m1R, n_addL, n_addR, n_mulL, n_mulR, n_subR, n_subL, n_add, n_mul, n_neg, n_sub, n_le, n_lt, n_eq, nI_clamp, if_true, if_false, if_pos, if_neg, or_false, false_or, not_false_eq_true, not_true_eq_false]
            exact ⟨_, _, rfl, rfl, rfl, hS', hT, hR, hI, hF, ic_prep hG hg x2 x3 x4, hp⟩
      · rw [if_pos e3, if_pos e3]
        exact ⟨_, _, rfl, rfl, rfl, hS', hT, iR_0 hR, hI, hF, ⟨hr, hd, hg⟩, hp⟩
    · rw [if_pos e2, if_pos e2]
      exact ⟨_, _, rfl, rfl, rfl, hS', hT, iR_0 hR, hI, hF, ⟨hr, hd, hg⟩, hp⟩
  · rw [if_pos e1, if_pos e1]
    exact ⟨_, _, rfl, rfl, rfl, hS', hT, iR_0 hR, hI, hF, ⟨hr, hd, hg⟩, hp⟩
