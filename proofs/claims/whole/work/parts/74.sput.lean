/-! STEPS: the plain calls -/
theorem p_fullE {L s : Int32} {lim k : Nat} (hs : s = nI k) (hL : L = nI lim) (hk : k < 2 ^ 31) (hl : lim < 2 ^ 31) : g_X7_isFull L s = some (if lim ≤ k then 1 else 0) := by subst hs; exact p_full hL hk hl
theorem p_add1E {N lim k : Nat} {L s : Int32} {f : Nat → Int32} {a b c : Int32} (hs : s = nI k) (hL : L = nI lim) (hk : k < lim) (hl : lim ≤ 1000) (hN : lim ≤ N) (hN2 : N ≤ 1000) : g_X7_add N 1 L a b c s f = some (nI k, nI (k + 1), upd f k a) := by subst hs; exact p_add1 hL hk hl hN hN2
theorem p_add2E {N lim k : Nat} {L s : Int32} {f : Nat → Int32} {a b c : Int32} (hs : s = nI k) (hL : L = nI lim) (hk : k < lim) (hl : lim ≤ 1000) (hN : 2 * lim ≤ N) (hN2 : N ≤ 1000) : g_X7_add N 2 L a b c s f = some (nI k, nI (k + 1), upd (upd f (2 * k) a) (2 * k + 1) b) := by subst hs; exact p_add2 hL hk hl hN hN2
theorem p_add3E {N lim k : Nat} {L s : Int32} {f : Nat → Int32} {a b c : Int32} (hs : s = nI k) (hL : L = nI lim) (hk : k < lim) (hl : lim ≤ 1000) (hN : 3 * lim ≤ N) (hN2 : N ≤ 1000) : g_X7_add N 3 L a b c s f = some (nI k, nI (k + 1), upd (upd (upd f (3 * k) a) (3 * k + 1) b) (3 * k + 2) c) := by subst hs; exact p_add3 hL hk hl hN hN2
theorem told30 (s a b : Int32) : g_X9_isAsTold s 3 0 a b = some (if 0 ≤ a.toInt ∧ a.toInt ≤ 5 then 1 else 0) := by
  simp [g_X9_isAsTold, g_X9_isAsTold_95, zWID, zLEA, zMOS, Int32.lt_iff_toInt_lt, Int32.le_iff_toInt_le]
  grind
theorem told31 (s a b : Int32) : g_X9_isAsTold s 3 1 a b = some (if 0 ≤ a.toInt ∧ a.toInt ≤ 1 then 1 else 0) := by
  simp [g_X9_isAsTold, g_X9_isAsTold_95, zWID, zLEA, zMOS, Int32.lt_iff_toInt_lt, Int32.le_iff_toInt_le]
  grind
theorem told40 {s : Int32} {n : Nat} (hs : s = nI n) (hn : n ≤ 5) (a b : Int32) : g_X9_isAsTold s 4 0 a b = some (if 0 ≤ a.toInt ∧ a.toInt < n then 1 else 0) := by
  have h : s.toInt = n := by rw [hs, nI_toInt (by omega)]
  simp [g_X9_isAsTold, g_X9_isAsTold_95, g_X7_size, pb_some, zWID, zLEA, zMOS, Int32.lt_iff_toInt_lt, Int32.le_iff_toInt_le, h]
  grind
theorem told41 (s a b : Int32) : g_X9_isAsTold s 4 1 a b = some (if 0 ≤ a.toInt ∧ a.toInt ≤ 239 then 1 else 0) := by
  simp [g_X9_isAsTold, g_X9_isAsTold_95, zWID, zLEA, zMOS, Int32.lt_iff_toInt_lt, Int32.le_iff_toInt_le]
  grind
theorem told42 (s a b : Int32) : g_X9_isAsTold s 4 2 a b = some (if 0 ≤ a.toInt ∧ a.toInt ≤ 240 ∧ b.toInt < a.toInt then 1 else 0) := by
  simp [g_X9_isAsTold, g_X9_isAsTold_95, zWID, zLEA, zMOS, Int32.lt_iff_toInt_lt, Int32.le_iff_toInt_le]
  grind
theorem told50 (s a b : Int32) : g_X9_isAsTold s 5 0 a b = some (if 0 ≤ a.toInt ∧ a.toInt ≤ 99 then 1 else 0) := by
  simp [g_X9_isAsTold, g_X9_isAsTold_95, zWID, zLEA, zMOS, Int32.lt_iff_toInt_lt, Int32.le_iff_toInt_le]
  grind
theorem told51 (s a b : Int32) : g_X9_isAsTold s 5 1 a b = some (if 0 ≤ a.toInt ∧ a.toInt ≤ 99 then 1 else 0) := by
  simp [g_X9_isAsTold, g_X9_isAsTold_95, zWID, zLEA, zMOS, Int32.lt_iff_toInt_lt, Int32.le_iff_toInt_le]
  grind
theorem told52 (s a b : Int32) : g_X9_isAsTold s 5 2 a b = some (if -99 ≤ a.toInt ∧ a.toInt ≤ 99 then 1 else 0) := by
  simp [g_X9_isAsTold, g_X9_isAsTold_95, zWID, zLEA, zMOS, Int32.lt_iff_toInt_lt, Int32.le_iff_toInt_le]
  grind
theorem told60 (s a b : Int32) : g_X9_isAsTold s 6 0 a b = some (if 0 ≤ a.toInt ∧ a.toInt ≤ 240 then 1 else 0) := by
  simp [g_X9_isAsTold, g_X9_isAsTold_95, zWID, zLEA, zMOS, Int32.lt_iff_toInt_lt, Int32.le_iff_toInt_le]
  grind
theorem told61 (s a b : Int32) : g_X9_isAsTold s 6 1 a b = some (if 0 ≤ a.toInt ∧ a.toInt ≤ 999 then 1 else 0) := by
  simp [g_X9_isAsTold, g_X9_isAsTold_95, zWID, zLEA, zMOS, Int32.lt_iff_toInt_lt, Int32.le_iff_toInt_le]
  grind
theorem zp_put : zstep_put Inv := by
  intro I Aa J V h a1 a2
  obtain ⟨hS, hT, hR, hI, hF, hc, hp⟩ := h
  have fin : ∀ k : Nat, k < 3 → a1 = nI k → ((k = 0 → 1 ≤ a2.toInt ∧ a2.toInt ≤ 4) ∧ (k = 1 → 0 ≤ a2.toInt ∧ a2.toInt ≤ 1) ∧ (k = 2 → 0 ≤ a2.toInt ∧ a2.toInt ≤ 240)) → RS (I 0) (I 1) (I 2) (I 3) (I 4) (Aa 0) (Aa 1) (Aa 2) (Aa 3) (Aa 4) (upd (Aa 5) k a2) (Aa 6) (upd (Aa 45) k a2) := fun k hk _ hx => rs_put hS k a2 hk hx
  have hse : ∀ j, j < 3 → Aa 5 j = Aa 45 j := by
    obtain ⟨np, nt, nd, ns, nr, hG, hC⟩ := hS
    exact hC.2.1
  by_cases e : 0 ≤ a1.toInt ∧ a1.toInt ≤ 2
  · obtain ⟨k, hk, hk2⟩ : ∃ k : Nat, a1 = nI k ∧ k < 3 := ⟨a1.toInt.toNat, (n_to e.1).1, by omega⟩
    rcases (show k = 0 ∨ k = 1 ∨ k = 2 by omega) with rfl | rfl | rfl
    · by_cases e2 : 1 ≤ a2.toInt ∧ a2.toInt ≤ 4
      · refine ⟨_, _, by rw [hk, show nI 0 = 0 from rfl, x_put0, if_pos e2], by rw [hk, show nI 0 = 0 from rfl, m_put0, if_pos e2], hse 0 (by omega), ?_⟩
        exact ⟨fin 0 (by omega) hk ⟨fun _ => e2, fun h => absurd h (by decide), fun h => absurd h (by decide)⟩, hT, hR, hI, hF, ic_chg .., cp_chg _ _ _ _⟩
      · refine ⟨_, _, by rw [hk, show nI 0 = 0 from rfl, x_put0, if_neg e2], by rw [hk, show nI 0 = 0 from rfl, m_put0, if_neg e2], rfl, ?_⟩
        exact ⟨hS, hT, iR_0 hR, hI, hF, hc, hp⟩
    · by_cases e2 : 0 ≤ a2.toInt ∧ a2.toInt ≤ 1
      · refine ⟨_, _, by rw [hk, show nI 1 = 1 from rfl, x_put1, if_pos e2], by rw [hk, show nI 1 = 1 from rfl, m_put1, if_pos e2], hse 1 (by omega), ?_⟩
        exact ⟨fin 1 (by omega) hk ⟨fun h => absurd h (by decide), fun _ => e2, fun h => absurd h (by decide)⟩, hT, hR, hI, hF, ic_chg .., cp_chg _ _ _ _⟩
      · refine ⟨_, _, by rw [hk, show nI 1 = 1 from rfl, x_put1, if_neg e2], by rw [hk, show nI 1 = 1 from rfl, m_put1, if_neg e2], rfl, ?_⟩
        exact ⟨hS, hT, iR_0 hR, hI, hF, hc, hp⟩
    · by_cases e2 : 0 ≤ a2.toInt ∧ a2.toInt ≤ 240
      · refine ⟨_, _, by rw [hk, show nI 2 = 2 from rfl, x_put2, if_pos e2], by rw [hk, show nI 2 = 2 from rfl, m_put2, if_pos e2], hse 2 (by omega), ?_⟩
        exact ⟨fin 2 (by omega) hk ⟨fun h => absurd h (by decide), fun h => absurd h (by decide), fun _ => e2⟩, hT, hR, hI, hF, ic_chg .., cp_chg _ _ _ _⟩
      · refine ⟨_, _, by rw [hk, show nI 2 = 2 from rfl, x_put2, if_neg e2], by rw [hk, show nI 2 = 2 from rfl, m_put2, if_neg e2], rfl, ?_⟩
        exact ⟨hS, hT, iR_0 hR, hI, hF, hc, hp⟩
  · refine ⟨_, _, x_put3 _ _ _ _ _ _ _ _ _ e, m_put3 _ _ _ _ e, rfl, ?_⟩
    exact ⟨hS, hT, iR_0 hR, hI, hF, hc, hp⟩
theorem zp_person : zstep_person Inv := by
  intro I Aa J V h a1 a2
  obtain ⟨hS, hT, hR, hI, hF, hc, hp⟩ := h
  have hS' := hS
  obtain ⟨np, nt, nd, ns, nr, hG, hC⟩ := hS
  have hs := hC.1.1
  have hw := hG.2.1.1
  have hb := hG.1
  unfold g_X10_person g_X10_enter g_X11_person g_X10_enter_52 g_X10_enter_59 g_X11_person_22
  rw [told30, told31, p_inN a1 0 5 0 5 rfl rfl, p_inN a2 0 1 0 1 rfl rfl, hr2, hr4, hm2, hm4]
  simp only [pb_some, ite10]
  by_cases e1 : 0 ≤ a1.toInt ∧ a1.toInt ≤ 5
  · by_cases e2 : 0 ≤ a2.toInt ∧ a2.toInt ≤ 1
    · rw [if_neg (not_not_intro e1), if_neg (not_not_intro e2), if_neg (by decide), if_neg (by decide), if_neg (not_not_intro e1), if_neg (not_not_intro e2), hw, p_fullE hs (lim := 5) (by decide) (show np < 2 ^ 31 by omega) (by decide)]
      rw [show g_X9_rowsOf 3 = some 3 from rfl, pb_some, if_neg (by decide), if_neg (by decide), if_neg (by decide), if_pos rfl, pb_some]
      by_cases e3 : 5 ≤ np
      · rw [if_pos e3, if_neg (by decide)]
        have : np = 5 := by omega
        subst this
        rw [if_pos (show nI 5 = 5 from rfl)]
        exact ⟨_, _, rfl, rfl, rfl, hS', hT, iR_2 hR, hI, hF, hc, hp⟩
      · rw [if_neg e3, if_pos rfl, p_changed, pb_some, p_add2E hs (lim := 5) (by decide) (show np < 5 by omega) (by omega) (by omega) (by omega)]
        simp (disch := omega) only [n_z1, n_z2, n_z3, n_z4, n_z5, n_z6, n_z7, n_z8, n_leL, n_leR, n_ltL, n_ltR, n_eqL, n_eqR, n_m1R, n_addL, n_addR, n_mulL, n_mulR, n_subR, n_subL, n_add, n_mul, n_neg, n_sub, n_le, n_lt, n_eq, nI_clamp, if_true, if_false, if_pos, if_neg, or_false, false_or, not_false_eq_true, not_true_eq_false, pb_some]
        refine ⟨_, _, rfl, rfl, rfl, ?_⟩
        refine ⟨?_, hT, hR, hI, hF, ic_chg .., cp_chg _ _ _ _⟩
        have := rs_person hS' hs (show np < 5 by omega) e1 e2
        have q : upd (upd (Aa 45) (13 + np) a1) (18 + np) a2 3 + 1 = nI (np + 1) := by
          rw [upd_eq, if_neg (by omega), upd_eq, if_neg (by omega), hw, n_addR]
        show RS (nI (np + 1)) _ _ _ _ _ _ _ _ _ _ _ (upd (upd (upd (Aa 45) (13 + np) a1) (18 + np) a2) 3 (upd (upd (Aa 45) (13 + np) a1) (18 + np) a2 3 + 1))
        rw [q]
        exact this
    · rw [if_neg (not_not_intro e1), if_pos e2, if_neg (not_not_intro e1), if_pos e2]
      exact ⟨_, _, rfl, rfl, rfl, hS', hT, iR_0 hR, hI, hF, hc, hp⟩
  · rw [if_pos e1, if_pos e1]
    exact ⟨_, _, rfl, rfl, rfl, hS', hT, iR_0 hR, hI, hF, hc, hp⟩
