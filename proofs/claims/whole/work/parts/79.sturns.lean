/-! STEPS: turns, paid -/
theorem n_div {a b : Nat} (ha : a < 2 ^ 31) (hb : b < 2 ^ 31) (h0 : 0 < b) : nI a / nI b = nI (a / b) := by
  apply n_of
  have hle : a / b ≤ a := Nat.div_le_self a b
  rw [Int32.toInt_div, nI_toInt ha, nI_toInt hb]
  rw [show (a : Int).tdiv (b : Int) = ((a / b : Nat) : Int) from rfl]
  generalize a / b = q at hle ⊢
  rw [Int.bmod_eq_of_le (by omega) (by omega)]
def gr (g : Nat → Int32) : Nat → Int32
  | 0 => 0
  | k + 1 => if gr g k < g k then g k else gr g k
theorem gr_bd (g : Nat → Int32) (b : Nat) (hb : b < 2 ^ 31) : ∀ n, (∀ k, k < n → 0 ≤ (g k).toInt ∧ (g k).toInt ≤ b) → ∃ e, e ≤ b ∧ gr g n = nI e ∧ ∀ k, k < n → (g k).toInt ≤ e
  | 0, _ => ⟨0, by omega, rfl, fun k h => by omega⟩
  | n + 1, h => by
    obtain ⟨e, e1, e2, e3⟩ := gr_bd g b hb n (fun k hk => h k (by omega))
    obtain ⟨h1, h2⟩ := h n (by omega)
    rw [gr]
    have hc : gr g n < g n ↔ (e : Int) < (g n).toInt := by rw [Int32.lt_iff_toInt_lt, e2, nI_toInt (by omega)]
    by_cases c : gr g n < g n
    · rw [if_pos c]
      have c2 := hc.1 c
      refine ⟨tn (g n), by unfold tn; omega, tn_nI h1, fun k hk => ?_⟩
      by_cases e4 : k = n
      · subst e4; unfold tn; omega
      · have := e3 k (by omega)
        unfold tn; omega
    · rw [if_neg c]
      have c2 : ¬ (e : Int) < (g n).toInt := fun h => c (hc.2 h)
      refine ⟨e, e1, e2, fun k hk => ?_⟩
      by_cases e4 : k = n
      · subst e4; omega
      · exact e3 k (by omega)
theorem x_greatest2 {N n : Nat} {W9 col : Int32} {f g : Nat → Int32} (hn : n ≤ 40) (h : ∀ k, k < n → g_X7_at N W9 (nI n) f (nI k) col = some (g k)) : ∀ (k z j : Nat), n - j = k → k < z → j ≤ n → g_X7_greatest_4 N W9 (nI n) f col z (gr g j) (nI j) = some (gr g n)
  | _, 0, _, _, h, _ => absurd h (Nat.not_lt_zero _)
  | k, z + 1, j, h1, h2, h3 => by
    rw [g_X7_greatest_4]
    unfold g_X7_greatest_4b
    by_cases e : n ≤ j
    · simp (disch := omega) only [n_z1, n_z2, n_z3, n_z4, n_z5, n_z6, n_z7, n_z8, n_leL, n_leR, n_ltL, n_ltR, n_eqL, n_eqR, n_m1R, n_addL, n_addR, n_mulL, n_mulR, n_subR, n_subL, n_add, n_mul, n_neg, n_sub, n_le, n_lt, n_eq, nI_clamp, if_true, if_false, if_pos, if_neg, or_false, false_or, not_false_eq_true, not_true_eq_false]
      rw [show j = n by omega]
    · simp (disch := omega) only [n_z1, n_z2, n_z3, n_z4, n_z5, n_z6, n_z7, n_z8, n_leL, n_leR, n_ltL, n_ltR, n_eqL, n_eqR, n_m1R, n_addL, n_addR, n_mulL, n_mulR, n_subR, n_subL, n_add, n_mul, n_neg, n_sub, n_le, n_lt, n_eq, nI_clamp, if_true, if_false, if_pos, if_neg, or_false, false_or, not_false_eq_true, not_true_eq_false]
      rw [h j (by omega), pb_some]
      exact x_greatest2 hn h (k - 1) z (j + 1) (by omega) (by omega) (by omega)
theorem x_greatest {N n : Nat} {W9 col : Int32} {f g : Nat → Int32} (hn : n ≤ 40) (h : ∀ k, k < n → g_X7_at N W9 (nI n) f (nI k) col = some (g k)) : g_X7_greatest N W9 (nI n) f col = some (gr g n) :=
  x_greatest2 hn h n zF 0 rfl (by show _ < 65536; omega) (by omega)
theorem zp_turns : zstep_turns Inv := by
  intro I Aa J V h a1
  obtain ⟨hS, hT, hR, hI, hF, ⟨hr, hd, hg⟩, hp⟩ := h
  have hS' := hS
  obtain ⟨np, nt, nd, ns, nr, hG, hC⟩ := hS
  have hb := hG.1
  have hs0 := hC.1.1
  have hs1 := hC.1.2.1
  have hw3 := hG.2.1.1
  have hw4 := hG.2.1.2.1
  unfold g_X10_turns g_X11_turns g_X7_size
  rw [p_isInZ a1 1 60 1 60 rfl rfl, p_inN a1 1 60 1 60 rfl rfl, hr2, hr3, hm2, hm3]
  simp only [pb_some, ite10]
  by_cases e1 : 1 ≤ a1.toInt ∧ a1.toInt ≤ 60
  · rw [if_neg (not_not_intro e1), if_neg (not_not_intro e1)]
    obtain ⟨hh, hh2, rfl⟩ := i32c (show 0 ≤ a1.toInt by omega) (n := 60) e1.2
    rw [nI_toInt (by omega)] at e1
    by_cases e2 : np = 0
    · rw [if_pos (show I 0 = 0 by rw [hs0, e2]; rfl), if_pos (show Aa 45 3 = 0 by rw [hw3, e2]; rfl)]
      exact ⟨_, _, rfl, rfl, rfl, hS', hT, iR_1 hR, hI, hF, ⟨hr, hd, hg⟩, hp⟩
    · have z0 : ¬ I 0 = 0 := by rw [hs0]; simp (disch := omega) only [n_z1, n_z2, n_z3, n_z4, n_z5, n_z6, n_z7, n_z8, n_leL, n_leR, n_ltL, n_ltR, n_eqL, n_eqR, n_m1R, n_addL, n_addR, n_mulL, n_mulR, n_subR, n_subL, n_add, n_mul, n_neg, n_sub, n_le, n_lt, n_eq, nI_clamp, if_true, if_false, if_pos, if_neg, or_false, false_or, not_false_eq_true, not_true_eq_false]; exact e2
      have z3 : ¬ Aa 45 3 = 0 := by rw [hw3]; simp (disch := omega) only [n_z1, n_z2, n_z3, n_z4, n_z5, n_z6, n_z7, n_z8, n_leL, n_leR, n_ltL, n_ltR, n_eqL, n_eqR, n_m1R, n_addL, n_addR, n_mulL, n_mulR, n_subR, n_subL, n_add, n_mul, n_neg, n_sub, n_le, n_lt, n_eq, nI_clamp, if_true, if_false, if_pos, if_neg, or_false, false_or, not_false_eq_true, not_true_eq_false]; exact e2
      rw [if_neg z0, if_neg z3]
      obtain ⟨size', pl', fault', row', T', C0', C1', kn', st', tv, x1, x2, x3, x4⟩ := x_prepare hG hC (I 16) hr hd (Aa 17) (J 0)
      obtain ⟨a', b', p', H', W', A', C', N', T2, S', m1, m2⟩ := m_wind hG x2 31 (I 45) (I 46) (I 47) (Aa 55) (Aa 54) (Aa 53) (Aa 56) (Aa 57) (Aa 58) (J 2)
      rw [x1, m1, pb_some, pb_some]
      dsimp only
      obtain ⟨e, g1, g2, g3⟩ := gr_bd (fun t => Aa 45 (55 + t)) 240 (by omega) nt (fun t ht => by have := rg_tg hG t ht; omega)
      have hgr : g_X7_greatest 48 3 (I 1) (Aa 1) 2 = some (nI e) := by
        rw [hs1, x_greatest (g := fun t => Aa 45 (55 + t)) (by omega) (fun k hk => by rw [x_at32 hk (by omega) (by omega) (by omega), (hC.2.2.2.2.1 k hk).2.2]), g2]
      have mgr : ∀ (k z t : Nat), nt - t = k → k < z → t ≤ nt → g_X11_turns_45 (Aa 45) (nI hh) z (gr (fun t => Aa 45 (55 + t)) t) (nI t) a' b' p' H' W' A' C' N' T2 S' (Aa 51) = g_X11_turns_90 (Aa 45) (nI hh) zF (nI e) 0 a' b' p' H' W' A' C' N' T2 S' (Aa 51) := by
        intro k
        induction k with
        | zero =>
          intro z t h1 h2 h3
          obtain ⟨z, rfl⟩ : ∃ y, z = y + 1 := ⟨z - 1, by omega⟩
          rw [g_X11_turns_45]
          unfold g_X11_turns_45b
          have : t = nt := by omega
          subst this
          rw [if_pos (show Aa 45 4 ≤ nI t by rw [hw4]; simp (disch := omega) only [n_z1, n_z2, n_z3, n_z4, n_z5, n_z6, n_z7, n_z8, n_leL, n_leR, n_ltL, n_ltR, n_eqL, n_eqR, n_m1R, n_addL, n_addR, n_mulL, n_mulR, n_subR, n_subL, n_add, n_mul, n_neg, n_sub, n_le, n_lt, n_eq, nI_clamp, if_true, if_false, if_pos, if_neg, or_false, false_or, not_false_eq_true, not_true_eq_false]; omega), g2]
        | succ k ih =>
          intro z t h1 h2 h3
          obtain ⟨z, rfl⟩ : ∃ y, z = y + 1 := ⟨z - 1, by omega⟩
          rw [g_X11_turns_45]
          unfold g_X11_turns_45b g_X11_turns_81
          rw [if_neg (show ¬ Aa 45 4 ≤ nI t by rw [hw4]; simp (disch := omega) only [n_z1, n_z2, n_z3, n_z4, n_z5, n_z6, n_z7, n_z8, n_leL, n_leR, n_ltL, n_ltR, n_eqL, n_eqR, n_m1R, n_addL, n_addR, n_mulL, n_mulR, n_subR, n_subL, n_add, n_mul, n_neg, n_sub, n_le, n_lt, n_eq, nI_clamp, if_true, if_false, if_pos, if_neg, or_false, false_or, not_false_eq_true, not_true_eq_false]; omega)]
          simp (disch := omega) only [n_z1, n_z2, n_z3, n_z4, n_z5, n_z6, n_z7, n_z8, n_leL, n_leR, n_ltL, n_ltR, n_eqL, n_eqR, n_m1R, n_addL, n_addR, n_mulL, n_mulR, n_subR, n_subL, n_add, n_mul, n_neg, n_sub, n_le, n_lt, n_eq, nI_clamp, if_true, if_false, if_pos, if_neg, or_false, false_or, not_false_eq_true, not_true_eq_false]
          have hi := ih z (t + 1) (by omega) (by omega) (by omega)
          rw [gr] at hi
          by_cases c : gr (fun t => Aa 45 (55 + t)) t < Aa 45 (55 + t)
          · rw [if_pos c] at hi
            rw [if_neg (Int32.not_le.mpr c)]
            exact hi
          · rw [if_neg c] at hi
            rw [if_pos (Int32.not_lt.mp c)]
            exact hi
      have mg := mgr nt zF 0 rfl (by show _ < 65536; omega) (by omega)
      have mg' : g_X11_turns_45 (Aa 45) (nI hh) zF 0 0 a' b' p' H' W' A' C' N' T2 S' (Aa 51) = _ := mg
      rw [mg']
      have loop : ∀ (k z m : Nat) (kn : Nat → Int32) (st : Nat → Int64), e - m = k → k < z → m ≤ e → ∃ ans kn2 st2, g_X1_firstMissedTurn_38 48 10 2 (nI np) 3 (I 1) (Aa 1) T' (Aa 0) C0' C1' (Aa 5) size' fault' row' (nI hh) z (nI np) (nI e) (nI m) kn st = some (ans, kn2, st2) ∧ g_X11_turns_90 (Aa 45) (nI hh) z (nI e) (nI m) a' b' p' H' W' A' C' N' T2 S' (Aa 51) = some (ans, a', b', p', H', W', A', C', N', T2, S', Aa 51) := by
        intro k
        induction k with
        | zero =>
          intro z m kn st h1 h2 h3
          obtain ⟨z, rfl⟩ : ∃ y, z = y + 1 := ⟨z - 1, by omega⟩
          rw [g_X1_firstMissedTurn_38, g_X11_turns_90]
          unfold g_X1_firstMissedTurn_38b g_X11_turns_90b
          rw [if_pos (show nI e ≤ nI m by simp (disch := omega) only [n_z1, n_z2, n_z3, n_z4, n_z5, n_z6, n_z7, n_z8, n_leL, n_leR, n_ltL, n_ltR, n_eqL, n_eqR, n_m1R, n_addL, n_addR, n_mulL, n_mulR, n_subR, n_subL, n_add, n_mul, n_neg, n_sub, n_le, n_lt, n_eq, nI_clamp, if_true, if_false, if_pos, if_neg, or_false, false_or, not_false_eq_true, not_true_eq_false]; omega), if_pos (show nI e ≤ nI m by simp (disch := omega) only [n_z1, n_z2, n_z3, n_z4, n_z5, n_z6, n_z7, n_z8, n_leL, n_leR, n_ltL, n_ltR, n_eqL, n_eqR, n_m1R, n_addL, n_addR, n_mulL, n_mulR, n_subR, n_subL, n_add, n_mul, n_neg, n_sub, n_le, n_lt, n_eq, nI_clamp, if_true, if_false, if_pos, if_neg, or_false, false_or, not_false_eq_true, not_true_eq_false]; omega)]
          exact ⟨-1, kn, st, rfl, rfl⟩
        | succ k ih =>
          intro z m kn st h1 h2 h3
          obtain ⟨z, rfl⟩ : ∃ y, z = y + 1 := ⟨z - 1, by omega⟩
          rw [g_X1_firstMissedTurn_38, g_X11_turns_90]
          unfold g_X1_firstMissedTurn_38b g_X11_turns_90b
          have hdv : m / hh < 2 ^ 31 := by have := Nat.div_le_self m hh; omega
          have hq1 : m / hh / np * np ≤ m / hh := Nat.div_mul_le_self _ _
          have hq2 : m / hh / np < 2 ^ 31 := by have := Nat.div_le_self (m / hh) np; omega
          have hp3 : m / hh - m / hh / np * np = m / hh % np := by
            have := Nat.mod_add_div (m / hh) np
            rw [Nat.mul_comm] at this
            omega
          have hp4 : m / hh % np < np := Nat.mod_lt _ (by omega)
          rw [hw3]
          rw [n_div (show m < 2 ^ 31 by omega) (by omega) (by omega), n_div hdv (show np < 2 ^ 31 by omega) (by omega)]
          simp (disch := omega) only [n_z1, n_z2, n_z3, n_z4, n_z5, n_z6, n_z7, n_z8, n_leL, n_leR, n_ltL, n_ltR, n_eqL, n_eqR, n_m1R, n_addL, n_addR, n_mulL, n_mulR, n_subR, n_subL, n_add, n_mul, n_neg, n_sub, n_le, n_lt, n_eq, nI_clamp, if_true, if_false, if_pos, if_neg, or_false, false_or, not_false_eq_true, not_true_eq_false]
          rw [hp3]
          obtain ⟨v, hv, hv2⟩ : ∃ v, v ≤ 1 ∧ Aa 45 (18 + m / hh % np) = nI v := by
            obtain ⟨v, h1, h2⟩ := i32c (rg_pg hG (m / hh % np) hp4).2.1 (n := 1) (rg_pg hG (m / hh % np) hp4).2.2
            exact ⟨v, h1, h2⟩
          obtain ⟨kn2, st2, x5⟩ := x_counted (SE := Aa 5) (rg_tx hG).1 hb.1 (rg_pg hG) hC.2.2.2.1 hC.2.1 x2 x3 (m / hh % np) m v hp4 (by omega) hv2 hv kn st
          rw [x5, pb_some, m2.2 (m / hh % np) hp4 m (by omega) v hv hv2]
          by_cases c : ctv (Aa 45) tv 31 nt np v (m / hh % np) m = 0
          · rw [if_pos c, if_pos c]
            exact ⟨_, _, _, rfl, rfl⟩
          · rw [if_neg c, if_neg c]
            exact ih z (m + 1) kn2 st2 (by omega) (by omega) (by omega)
      obtain ⟨ans, kn2, st2, y1, y2⟩ := loop e zF 0 kn' st' rfl (by show _ < 65536; omega) (by omega)
      have y2' : g_X11_turns_90 (Aa 45) (nI hh) zF (nI e) 0 a' b' p' H' W' A' C' N' T2 S' (Aa 51) = _ := y2
      have y1' : g_X1_firstMissedTurn 48 10 2 (I 0) 3 (I 1) (Aa 1) T' (Aa 0) C0' C1' (Aa 5) size' fault' row' (nI hh) kn' st' = some (ans, kn2, st2) := by
        unfold g_X1_firstMissedTurn g_X7_size
        rw [pb_some, if_neg (show ¬ nI hh < 1 by simp (disch := omega) only [n_z1, n_z2, n_z3, n_z4, n_z5, n_z6, n_z7, n_z8, n_leL, n_leR, n_ltL, n_ltR, n_eqL, n_eqR, n_m1R, n_addL, n_addR, n_mulL, n_mulR, n_subR, n_subL, n_add, n_mul, n_neg, n_sub, n_le, n_lt, n_eq, nI_clamp, if_true, if_false, if_pos, if_neg, or_false, false_or, not_false_eq_true, not_true_eq_false]; omega), hs0, if_pos (show 1 ≤ nI np by simp (disch := omega) only [n_z1, n_z2, n_z3, n_z4, n_z5, n_z6, n_z7, n_z8, n_leL, n_leR, n_ltL, n_ltR, n_eqL, n_eqR, n_m1R, n_addL, n_addR, n_mulL, n_mulR, n_subR, n_subL, n_add, n_mul, n_neg, n_sub, n_le, n_lt, n_eq, nI_clamp, if_true, if_false, if_pos, if_neg, or_false, false_or, not_false_eq_true, not_true_eq_false]; omega), hgr, pb_some]
        exact y1
      rw [y1', y2', pb_some]
      exact ⟨_, _, rfl, rfl, rfl, hS', hT, hR, hI, hF, ic_prep hG hg x2 x3 x4, hp⟩
  · rw [if_pos e1, if_pos e1]
    exact ⟨_, _, rfl, rfl, rfl, hS', hT, iR_0 hR, hI, hF, ⟨hr, hd, hg⟩, hp⟩
theorem zp_paid : zstep_paid Inv := by
  intro I Aa J V h a1
  obtain ⟨hS, hT, hR, hI, hF, ⟨hr, hd, hg⟩, hp⟩ := h
  have hS' := hS
  obtain ⟨np, nt, nd, ns, nr, hG, hC⟩ := hS
  have hb := hG.1
  have hs2 := hC.1.2.2.1
  have hw5 := hG.2.1.2.2.1
  have hq : (Int32.toInt64 (Aa 45 5 - 1)).toInt = (nd : Int) - 1 := by rw [Int32.toInt_toInt64, hw5, n_pm1 (by omega)]
  unfold g_X10_paid g_X11_paid g_X7_size g_X10_refuseWorth g_X11_worse
  rw [pb_some, p_isInZ a1 (-1) (I 2 - 1) (-1) ((nd : Int) - 1) rfl (by rw [hs2, n_pm1 (by omega)]), p_inN a1 _ _ (-1) ((nd : Int) - 1) rfl hq, hr2]
  simp only [pb_some, ite10]
  by_cases e1 : -1 ≤ a1.toInt ∧ a1.toInt ≤ (nd : Int) - 1
  · rw [if_neg (not_not_intro e1), if_neg (not_not_intro e1)]
    obtain ⟨size', pl', fault', row', T', C0', C1', kn', st', tv, x1, x2, x3, x4⟩ := x_prepare hG hC (I 16) hr hd (Aa 17) (J 0)
    obtain ⟨a', b', p', H', W', A', C', N', T2, S', m1, m2⟩ := m_wind hG x2 31 (I 45) (I 46) (I 47) (Aa 55) (Aa 54) (Aa 53) (Aa 56) (Aa 57) (Aa 58) (J 2)
    rw [x1, m1, pb_some, pb_some]
    dsimp only
    obtain ⟨w, hw⟩ : ∃ w, w = Aa 45 := ⟨_, rfl⟩
    have hsun : ∀ d, d < nd → ∃ s, s ≤ 99 ∧ Aa 45 (79 + d) = nI s := fun d hd => by
      have := hG.2.2.2.2.2.2.1 d hd
      obtain ⟨s, q1, q2⟩ := i32c this.2.1.1 (n := 99) this.2.1.2
      exact ⟨s, q1, q2⟩
    have hP : ∀ d, d < nd → g_X10_isPaid 24 3 (I 2) (Aa 2) C0' C1' (nI d) = some (if Aa 45 (71 + d) ≤ C' (Aa 45 (79 + d)).toNatClampNeg then 1 else 0) := by
      intro d hd
      obtain ⟨s, q1, q2⟩ := hsun d hd
      have hc := hC.2.2.2.2.2.1 d hd
      unfold g_X10_isPaid
      rw [hs2, x_at31 hd (by omega) (by omega) (by omega), pb_some, hc.2.1, q2]
      rw [show g_X1_clockAt C0' C1' 0 (nI s) = _ from dok_clock x3 0 s (by omega) (by omega), pb_some, x_at30 hd (by omega) (by omega) (by omega), pb_some, hc.1, nI_clamp (by omega)]
      have := m2.1 0 (by omega) s (by omega)
      rw [show 241 * 0 + s = s by omega] at this
      rw [this]
      by_cases c : cw (Aa 45) tv 31 nt np 0 s < Aa 45 (71 + d)
      · rw [if_pos c, if_neg (Int32.not_le.mpr c)]
      · rw [if_neg c, if_pos (Int32.not_lt.mp c)]
    have step : ∀ (k5 : Int32 → Int32 → Int32 → Int32 → Int32 → (Nat → Int32) → (Nat → Int32) → (Nat → Int32) → (Nat → Int32) → (Nat → Int32) → (Nat → Int32) → (Nat → Int64) → (Nat → Int32) → Option (Int32 × Int32 × Int32 × Int32 × (Nat → Int32) × (Nat → Int32) × (Nat → Int32) × (Nat → Int32) × (Nat → Int32) × (Nat → Int32) × (Nat → Int64) × (Nat → Int32))) (x : Int32) (d : Nat), d < nd → g_X11_paid_35b (Aa 45) a1 k5 x (nI d) a' b' p' H' W' A' C' N' T2 S' (Aa 51) = k5 (x + (if a1 = nI d then (if Aa 45 (71 + d) ≤ C' (Aa 45 (79 + d)).toNatClampNeg then 1 else 0) else if a1 = -1 then (if Aa 45 (71 + d) ≤ C' (Aa 45 (79 + d)).toNatClampNeg then Aa 45 (87 + d) else 0) else 0)) (nI (d + 1)) a' b' p' H' W' A' C' N' T2 S' (Aa 51) := by
      intro k5 x d hd
      obtain ⟨s, q1, q2⟩ := hsun d hd
      unfold g_X11_paid_35b g_X11_paid_76 g_X11_paid_110
      rw [if_neg (show ¬ Aa 45 5 ≤ nI d by rw [hw5]; simp (disch := omega) only [n_z1, n_z2, n_z3, n_z4, n_z5, n_z6, n_z7, n_z8, n_leL, n_leR, n_ltL, n_ltR, n_eqL, n_eqR, n_m1R, n_addL, n_addR, n_mulL, n_mulR, n_subR, n_subL, n_add, n_mul, n_neg, n_sub, n_le, n_lt, n_eq, nI_clamp, if_true, if_false, if_pos, if_neg, or_false, false_or, not_false_eq_true, not_true_eq_false]; omega)]
      simp (disch := omega) only [n_z1, n_z2, n_z3, n_z4, n_z5, n_z6, n_z7, n_z8, n_leL, n_leR, n_ltL, n_ltR, n_eqL, n_eqR, n_m1R, n_addL, n_addR, n_mulL, n_mulR, n_subR, n_subL, n_add, n_mul, n_neg, n_sub, n_le, n_lt, n_eq, nI_clamp, if_true, if_false, if_pos, if_neg, or_false, false_or, not_false_eq_true, not_true_eq_false, q2]
      by_cases c : C' s < Aa 45 (71 + d)
      · rw [if_pos c, if_neg (Int32.not_le.mpr c), if_neg (Int32.not_le.mpr c)]
        by_cases c1 : a1 = nI d
        · rw [if_pos c1, if_pos c1]
        · rw [if_neg c1, if_neg c1]
          by_cases c2 : a1 = -1
          · rw [if_pos c2, if_pos c2, Int32.zero_mul]
          · rw [if_neg c2, if_neg c2]
      · rw [if_neg c, if_pos (Int32.not_lt.mp c), if_pos (Int32.not_lt.mp c)]
        by_cases c1 : a1 = nI d
        · rw [if_pos c1, if_pos c1]
        · rw [if_neg c1, if_neg c1]
          by_cases c2 : a1 = -1
          · rw [if_pos c2, if_pos c2, Int32.one_mul]
          · rw [if_neg c2, if_neg c2]
    by_cases e2 : a1 = -1
    · rw [if_pos e2]
      have loop : ∀ (k z d : Nat) (x : Int32), nd - d = k → k < z → d ≤ nd → ∃ ans, g_X10_paid_52 40 48 10 24 3 (I 2) 1 (I 4) (Aa 4) 3 (I 1) (Aa 1) 2 (I 0) (Aa 0) (Aa 5) (Aa 2) a1 z x (nI d) size' pl' fault' 0 row' 0 T' C0' C1' kn' st' (Aa 44) = some (ans, size', pl', fault', 0, row', 0, T', C0', C1', kn', st', Aa 44) ∧ g_X11_paid_35 (Aa 45) a1 z x (nI d) a' b' p' H' W' A' C' N' T2 S' (Aa 51) = some (ans, a', b', p', H', W', A', C', N', T2, S', Aa 51) := by
        intro k
        induction k with
        | zero =>
          intro z d x h1 h2 h3
          obtain ⟨z, rfl⟩ : ∃ y, z = y + 1 := ⟨z - 1, by omega⟩
          rw [g_X10_paid_52, g_X11_paid_35]
          unfold g_X10_paid_52b g_X11_paid_35b g_X7_size
          rw [pb_some, if_pos (show I 2 ≤ nI d by rw [hs2]; simp (disch := omega) only [n_z1, n_z2, n_z3, n_z4, n_z5, n_z6, n_z7, n_z8, n_leL, n_leR, n_ltL, n_ltR, n_eqL, n_eqR, n_m1R, n_addL, n_addR, n_mulL, n_mulR, n_subR, n_subL, n_add, n_mul, n_neg, n_sub, n_le, n_lt, n_eq, nI_clamp, if_true, if_false, if_pos, if_neg, or_false, false_or, not_false_eq_true, not_true_eq_false]; omega), if_pos (show Aa 45 5 ≤ nI d by rw [hw5]; simp (disch := omega) only [n_z1, n_z2, n_z3, n_z4, n_z5, n_z6, n_z7, n_z8, n_leL, n_leR, n_ltL, n_ltR, n_eqL, n_eqR, n_m1R, n_addL, n_addR, n_mulL, n_mulR, n_subR, n_subL, n_add, n_mul, n_neg, n_sub, n_le, n_lt, n_eq, nI_clamp, if_true, if_false, if_pos, if_neg, or_false, false_or, not_false_eq_true, not_true_eq_false]; omega)]
          exact ⟨x, rfl, rfl⟩
        | succ k ih =>
          intro z d x h1 h2 h3
          obtain ⟨z, rfl⟩ : ∃ y, z = y + 1 := ⟨z - 1, by omega⟩
          rw [g_X10_paid_52, g_X11_paid_35, step _ x d (by omega)]
          unfold g_X10_paid_52b g_X7_size g_X10_paid_89
          rw [pb_some, if_neg (show ¬ I 2 ≤ nI d by rw [hs2]; simp (disch := omega) only [n_z1, n_z2, n_z3, n_z4, n_z5, n_z6, n_z7, n_z8, n_leL, n_leR, n_ltL, n_ltR, n_eqL, n_eqR, n_m1R, n_addL, n_addR, n_mulL, n_mulR, n_subR, n_subL, n_add, n_mul, n_neg, n_sub, n_le, n_lt, n_eq, nI_clamp, if_true, if_false, if_pos, if_neg, or_false, false_or, not_false_eq_true, not_true_eq_false]; omega), hP d (by omega), pb_some]
          rw [if_neg (show ¬ a1 = nI d by rw [e2]; intro hh; have := congrArg Int32.toInt hh; rw [nI_toInt (by omega)] at this; revert this; have : (-1 : Int32).toInt = -1 := rfl; omega), if_pos e2]
          by_cases c : Aa 45 (71 + d) ≤ C' (Aa 45 (79 + d)).toNatClampNeg
          · rw [if_pos c, if_pos c, if_neg (by decide), hs2, x_at32 (show d < nd by omega) (by omega) (by omega) (by omega), pb_some, (hC.2.2.2.2.2.1 d (by omega)).2.2, n_addR]
            rw [← hs2]
            exact ih z (d + 1) _ (by omega) (by omega) (by omega)
          · rw [if_neg c, if_neg c, if_pos rfl, Int32.add_zero, n_addR]
            exact ih z (d + 1) _ (by omega) (by omega) (by omega)
      obtain ⟨ans, y1, y2⟩ := loop nd zF 0 0 rfl (by show _ < 65536; omega) (by omega)
      exact ⟨_, _, y1, y2, rfl, hS', hT, hR, hI, hF, ic_prep hG hg x2 x3 x4, hp⟩
    · rw [if_neg e2]
      have hge : 0 ≤ a1.toInt := by
        have : a1.toInt ≠ -1 := fun h => e2 (i32_of h rfl)
        omega
      obtain ⟨d, hd1, hd2⟩ := i32c hge (n := nd - 1) (by omega)
      have hdlt : d < nd := by rw [hd2, nI_toInt (by omega)] at e1; omega
      obtain ⟨q, hq⟩ : ∃ q : Int32, q = if Aa 45 (71 + d) ≤ C' (Aa 45 (79 + d)).toNatClampNeg then 1 else 0 := ⟨_, rfl⟩
      have loop : ∀ (k z j : Nat), nd - j = k → k < z → j ≤ nd → g_X11_paid_35 (Aa 45) a1 z (if d < j then q else 0) (nI j) a' b' p' H' W' A' C' N' T2 S' (Aa 51) = some (q, a', b', p', H', W', A', C', N', T2, S', Aa 51) := by
        intro k
        induction k with
        | zero =>
          intro z j h1 h2 h3
          obtain ⟨z, rfl⟩ : ∃ y, z = y + 1 := ⟨z - 1, by omega⟩
          rw [g_X11_paid_35]
          unfold g_X11_paid_35b
          rw [if_pos (show Aa 45 5 ≤ nI j by rw [hw5]; simp (disch := omega) only [n_z1, n_z2, n_z3, n_z4, n_z5, n_z6, n_z7, n_z8, n_leL, n_leR, n_ltL, n_ltR, n_eqL, n_eqR, n_m1R, n_addL, n_addR, n_mulL, n_mulR, n_subR, n_subL, n_add, n_mul, n_neg, n_sub, n_le, n_lt, n_eq, nI_clamp, if_true, if_false, if_pos, if_neg, or_false, false_or, not_false_eq_true, not_true_eq_false]; omega), if_pos (by omega)]
        | succ k ih =>
          intro z j h1 h2 h3
          obtain ⟨z, rfl⟩ : ∃ y, z = y + 1 := ⟨z - 1, by omega⟩
          rw [g_X11_paid_35, step _ _ j (by omega), if_neg e2]
          have hi := ih z (j + 1) (by omega) (by omega) (by omega)
          have heq : (a1 = nI j) = (d = j) := by rw [hd2]; exact n_eq (by omega) (by omega)
          by_cases c : d = j
          · rw [if_pos (show a1 = nI j by rw [heq]; exact c)]
            subst c
            rw [if_neg (by omega), ← hq, Int32.zero_add]
            rw [if_pos (by omega)] at hi
            exact hi
          · rw [if_neg (show ¬ a1 = nI j by rw [heq]; exact c), Int32.add_zero]
            by_cases c2 : d < j
            · rw [if_pos c2]; rw [if_pos (by omega)] at hi; exact hi
            · rw [if_neg c2]; rw [if_neg (by omega)] at hi; exact hi
      have y := loop nd zF 0 rfl (by show _ < 65536; omega) (by omega)
      have y' : g_X11_paid_35 (Aa 45) a1 zF 0 0 a' b' p' H' W' A' C' N' T2 S' (Aa 51) = _ := y
      rw [y', hd2, hP d hdlt, pb_some]
      by_cases c : Aa 45 (71 + d) ≤ C' (Aa 45 (79 + d)).toNatClampNeg
      · rw [if_pos c] at hq ⊢
        rw [if_neg (by decide)]
        exact ⟨_, _, rfl, rfl, hq.symm, hS', hT, hR, hI, hF, ic_prep hG hg x2 x3 x4, hp⟩
      · rw [if_neg c] at hq ⊢
        rw [if_pos rfl]
        exact ⟨_, _, rfl, rfl, hq.symm, hS', hT, hR, hI, hF, ic_prep hG hg x2 x3 x4, hp⟩
  · rw [if_pos e1, if_pos e1]
    exact ⟨_, _, rfl, rfl, rfl, hS', hT, iR_0 hR, hI, hF, ⟨hr, hd, hg⟩, hp⟩
