/-! STEPS: talk, due, sight -/
theorem zp_talk : zstep_talk Inv := by
  intro I Aa J V h a1 a2 a3
  obtain ⟨hS, hT, hR, hI, hF, hc, hp⟩ := h
  have hS' := hS
  obtain ⟨np, nt, nd, ns, nr, hG, hC⟩ := hS
  have hs0 := hC.1.1
  have hs := hC.1.2.1
  have hw3 := hG.2.1.1
  have hw := hG.2.1.2.1
  have hb := hG.1
  have hq : (Int32.toInt64 (Aa 45 3 - 1)).toInt = (np : Int) - 1 := by rw [Int32.toInt_toInt64, hw3, n_pm1 (by omega)]
  have l0 : (a2 < 0) ↔ a2.toInt < 0 := Int32.lt_iff_toInt_lt
  have l1 : (a3 ≤ a2) ↔ a3.toInt ≤ a2.toInt := Int32.le_iff_toInt_le
  have l2 : (a3 ≤ 240) ↔ a3.toInt ≤ 240 := Int32.le_iff_toInt_le
  unfold g_X10_talk g_X10_enter g_X11_talk g_X10_enter_52 g_X10_enter_59 g_X11_talk_34
  rw [told40 hs0 (show np ≤ 5 by omega), told41, told42, p_inN a1 _ _ 0 ((np : Int) - 1) rfl hq, hr2, hr4, hm2, hm4]
  simp only [pb_some, ite10, l0, l1, l2]
  by_cases e : (0 ≤ a1.toInt ∧ a1.toInt < np) ∧ (0 ≤ a2.toInt ∧ a2.toInt < a3.toInt ∧ a3.toInt ≤ 240)
  · rw [if_neg (fun h => h e.1), if_neg (fun h => h (by omega)), if_neg (by decide), if_pos (by decide), if_neg (fun h => h (by omega)), if_neg (fun h => h (by omega)), if_neg (by omega), if_neg (by omega), if_pos (by omega), hw, p_fullE hs (lim := 16) (by decide) (show nt < 2 ^ 31 by omega) (by decide)]
    rw [show g_X9_rowsOf 4 = some 0 from rfl, pb_some, if_pos rfl, pb_some]
    by_cases e3 : 16 ≤ nt
    · rw [if_pos e3, if_neg (by decide)]
      have : nt = 16 := by omega
      subst this
      rw [if_pos (show nI 16 = 16 from rfl)]
      exact ⟨_, _, rfl, rfl, rfl, hS', hT, iR_2 hR, hI, hF, hc, hp⟩
    · rw [if_neg e3, if_pos rfl, p_changed, pb_some, p_add3E hs (lim := 16) (by decide) (show nt < 16 by omega) (by omega) (by omega) (by omega)]
      simp (disch := omega) only [n_z1, n_z2, n_z3, n_z4, n_z5, n_z6, n_z7, n_z8, n_leL, n_leR, n_ltL, n_ltR, n_eqL, n_eqR, n_m1R, n_addL, n_addR, n_mulL, n_mulR, n_subR, n_subL, n_add, n_mul, n_neg, n_sub, n_le, n_lt, n_eq, nI_clamp, if_true, if_false, if_pos, if_neg, or_false, false_or, not_false_eq_true, not_true_eq_false, pb_some]
      refine ⟨_, _, rfl, rfl, rfl, ?_⟩
      refine ⟨?_, hT, hR, hI, hF, ic_chg .., cp_chg _ _ _ _⟩
      have := rs_talk hS' hs (show nt < 16 by omega) (show 0 ≤ a1.toInt ∧ a1.toInt < (I 0).toInt by rw [hs0, nI_toInt (by omega)]; exact e.1) e.2
      have q : upd (upd (upd (Aa 45) (23 + nt) a1) (39 + nt) a2) (55 + nt) a3 4 + 1 = nI (nt + 1) := by
        rw [upd_eq, if_neg (by omega), upd_eq, if_neg (by omega), upd_eq, if_neg (by omega), hw, n_addR]
      show RS _ (nI (nt + 1)) _ _ _ _ _ _ _ _ _ _ (upd (upd (upd (upd (Aa 45) (23 + nt) a1) (39 + nt) a2) (55 + nt) a3) 4 (upd (upd (upd (Aa 45) (23 + nt) a1) (39 + nt) a2) (55 + nt) a3 4 + 1))
      rw [q]
      exact this
  · have hM : ∀ A B : Option (Int32 × (Nat → Int32) × (Nat → Int32)), (if ¬(0 ≤ a1.toInt ∧ a1.toInt ≤ (np : Int) - 1) then A else if a2.toInt < 0 then A else if a3.toInt ≤ a2.toInt then A else if a3.toInt ≤ 240 then B else A) = A := by
      intro A B
      by_cases e1 : 0 ≤ a1.toInt ∧ a1.toInt ≤ (np : Int) - 1
      · rw [if_neg (not_not_intro e1)]
        by_cases e2 : a2.toInt < 0
        · rw [if_pos e2]
        · rw [if_neg e2]
          by_cases e3 : a3.toInt ≤ a2.toInt
          · rw [if_pos e3]
          · rw [if_neg e3, if_neg (by omega)]
      · rw [if_pos e1]
    rw [hM]
    by_cases e1 : 0 ≤ a1.toInt ∧ a1.toInt < np
    · rw [if_neg (not_not_intro e1)]
      by_cases e2 : 0 ≤ a2.toInt ∧ a2.toInt ≤ 239
      · rw [if_neg (not_not_intro e2), if_neg (by decide), if_pos (by decide), if_pos (by omega)]
        exact ⟨_, _, rfl, rfl, rfl, hS', hT, iR_0 hR, hI, hF, hc, hp⟩
      · rw [if_pos e2]
        exact ⟨_, _, rfl, rfl, rfl, hS', hT, iR_0 hR, hI, hF, hc, hp⟩
    · rw [if_pos e1]
      exact ⟨_, _, rfl, rfl, rfl, hS', hT, iR_0 hR, hI, hF, hc, hp⟩
theorem zp_due : zstep_due Inv := by
  intro I Aa J V h a1 a2 a3
  obtain ⟨hS, hT, hR, hI, hF, hc, hp⟩ := h
  have hS' := hS
  obtain ⟨np, nt, nd, ns, nr, hG, hC⟩ := hS
  have hs := hC.1.2.2.1
  have hw := hG.2.1.2.2.1
  have hb := hG.1
  unfold g_X10_due g_X10_enter g_X11_due g_X10_enter_52 g_X10_enter_59 g_X11_due_38
  rw [told50, told51, told52, p_inN a1 0 99 0 99 rfl rfl, p_inN a2 0 99 0 99 rfl rfl, p_inN a3 (-99) 99 (-99) 99 rfl rfl, hr2, hr4, hm2, hm4]
  simp only [pb_some, ite10]
  by_cases e1 : 0 ≤ a1.toInt ∧ a1.toInt ≤ 99
  · by_cases e2 : 0 ≤ a2.toInt ∧ a2.toInt ≤ 99
    · by_cases e4 : -99 ≤ a3.toInt ∧ a3.toInt ≤ 99
      · rw [if_neg (not_not_intro e1), if_neg (not_not_intro e2), if_neg (by decide), if_pos (by decide), if_neg (not_not_intro e4), if_neg (not_not_intro e1), if_neg (not_not_intro e2), if_neg (not_not_intro e4), hw, p_fullE hs (lim := 8) (by decide) (show nd < 2 ^ 31 by omega) (by decide)]
        rw [show g_X9_rowsOf 5 = some 1 from rfl, pb_some, if_neg (by decide), if_pos rfl, pb_some]
        by_cases e3 : 8 ≤ nd
        · rw [if_pos e3, if_neg (by decide)]
          have : nd = 8 := by omega
          subst this
          rw [if_pos (show nI 8 = 8 from rfl)]
          exact ⟨_, _, rfl, rfl, rfl, hS', hT, iR_2 hR, hI, hF, hc, hp⟩
        · rw [if_neg e3, if_pos rfl, p_changed, pb_some, p_add3E hs (lim := 8) (by decide) (show nd < 8 by omega) (by omega) (by omega) (by omega)]
          simp (disch := omega) only [n_z1, n_z2, n_z3, n_z4, n_z5, n_z6, n_z7, n_z8, n_leL, n_leR, n_ltL, n_ltR, n_eqL, n_eqR, n_m1R, n_addL, n_addR, n_mulL, n_mulR, n_subR, n_subL, n_add, n_mul, n_neg, n_sub, n_le, n_lt, n_eq, nI_clamp, if_true, if_false, if_pos, if_neg, or_false, false_or, not_false_eq_true, not_true_eq_false, pb_some]
          refine ⟨_, _, rfl, rfl, rfl, ?_⟩
          refine ⟨?_, hT, hR, hI, hF, ic_chg .., cp_chg _ _ _ _⟩
          have := rs_due hS' hs (show nd < 8 by omega) e1 e2 e4
          have q : upd (upd (upd (Aa 45) (71 + nd) a1) (79 + nd) a2) (87 + nd) a3 5 + 1 = nI (nd + 1) := by
            rw [upd_eq, if_neg (by omega), upd_eq, if_neg (by omega), upd_eq, if_neg (by omega), hw, n_addR]
          show RS _ _ (nI (nd + 1)) _ _ _ _ _ _ _ _ _ (upd (upd (upd (upd (Aa 45) (71 + nd) a1) (79 + nd) a2) (87 + nd) a3) 5 (upd (upd (upd (Aa 45) (71 + nd) a1) (79 + nd) a2) (87 + nd) a3 5 + 1))
          rw [q]
          exact this
      · rw [if_neg (not_not_intro e1), if_neg (not_not_intro e2), if_neg (by decide), if_pos (by decide), if_pos e4, if_neg (not_not_intro e1), if_neg (not_not_intro e2), if_pos e4]
        exact ⟨_, _, rfl, rfl, rfl, hS', hT, iR_0 hR, hI, hF, hc, hp⟩
    · rw [if_neg (not_not_intro e1), if_pos e2, if_neg (not_not_intro e1), if_pos e2]
      exact ⟨_, _, rfl, rfl, rfl, hS', hT, iR_0 hR, hI, hF, hc, hp⟩
  · rw [if_pos e1, if_pos e1]
    exact ⟨_, _, rfl, rfl, rfl, hS', hT, iR_0 hR, hI, hF, hc, hp⟩
theorem zp_sight : zstep_sight Inv := by
  intro I Aa J V h a1 a2
  obtain ⟨hS, hT, hR, hI, hF, hc, hp⟩ := h
  have hS' := hS
  obtain ⟨np, nt, nd, ns, nr, hG, hC⟩ := hS
  have hs := hC.1.2.2.2.1
  have hw := hG.2.1.2.2.2.1
  have hb := hG.1
  unfold g_X10_sight g_X10_enter g_X11_sight g_X10_enter_52 g_X10_enter_59 g_X11_sight_24
  rw [told60, told61, p_inN a1 0 240 0 240 rfl rfl, p_inN a2 0 999 0 999 rfl rfl, hr2, hr4, hm2, hm4]
  simp only [pb_some, ite10]
  by_cases e1 : 0 ≤ a1.toInt ∧ a1.toInt ≤ 240
  · by_cases e2 : 0 ≤ a2.toInt ∧ a2.toInt ≤ 999
    · rw [if_neg (not_not_intro e1), if_neg (not_not_intro e2), if_neg (by decide), if_neg (by decide), if_neg (not_not_intro e1), if_neg (not_not_intro e2), hw, p_fullE hs (lim := 10) (by decide) (show ns < 2 ^ 31 by omega) (by decide)]
      rw [show g_X9_rowsOf 6 = some 2 from rfl, pb_some, if_neg (by decide), if_neg (by decide), if_pos rfl, pb_some]
      by_cases e3 : 10 ≤ ns
      · rw [if_pos e3, if_neg (by decide)]
        have : ns = 10 := by omega
        subst this
        rw [if_pos (show nI 10 = 10 from rfl)]
        exact ⟨_, _, rfl, rfl, rfl, hS', hT, iR_2 hR, hI, hF, hc, hp⟩
      · rw [if_neg e3, if_pos rfl, p_changed, pb_some, p_add2E hs (lim := 10) (by decide) (show ns < 10 by omega) (by omega) (by omega) (by omega)]
        simp (disch := omega) only [n_z1, n_z2, n_z3, n_z4, n_z5, n_z6, n_z7, n_z8, n_leL, n_leR, n_ltL, n_ltR, n_eqL, n_eqR, n_m1R, n_addL, n_addR, n_mulL, n_mulR, n_subR, n_subL, n_add, n_mul, n_neg, n_sub, n_le, n_lt, n_eq, nI_clamp, if_true, if_false, if_pos, if_neg, or_false, false_or, not_false_eq_true, not_true_eq_false, pb_some]
        refine ⟨_, _, rfl, rfl, rfl, ?_⟩
        refine ⟨?_, hT, hR, hI, hF, ic_chg .., cp_chg _ _ _ _⟩
        have := rs_sight hS' hs (show ns < 10 by omega) e1 e2
        have q : upd (upd (Aa 45) (95 + ns) a1) (105 + ns) a2 6 + 1 = nI (ns + 1) := by
          rw [upd_eq, if_neg (by omega), upd_eq, if_neg (by omega), hw, n_addR]
        show RS _ _ _ (nI (ns + 1)) _ _ _ _ _ _ _ _ (upd (upd (upd (Aa 45) (95 + ns) a1) (105 + ns) a2) 6 (upd (upd (Aa 45) (95 + ns) a1) (105 + ns) a2 6 + 1))
        rw [q]
        exact this
    · rw [if_neg (not_not_intro e1), if_pos e2, if_neg (not_not_intro e1), if_pos e2]
      exact ⟨_, _, rfl, rfl, rfl, hS', hT, iR_0 hR, hI, hF, hc, hp⟩
  · rw [if_pos e1, if_pos e1]
    exact ⟨_, _, rfl, rfl, rfl, hS', hT, iR_0 hR, hI, hF, hc, hp⟩
