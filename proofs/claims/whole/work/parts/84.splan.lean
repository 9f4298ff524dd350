/-! STEPS: best, step, minute -/
section
variable {w c2 SE : Nat → Int32} {fa nd : Nat}
theorem x_plref (h : PN w fa nd) (hc : ∀ d, d < nd → c2 (3 * d) = w (71 + d) ∧ c2 (3 * d + 1) = w (79 + d) ∧ c2 (3 * d + 2) = w (87 + d)) (hSE : SE 0 = nI fa) {k : Nat} (hk : k ≤ 9) {pst price : Int32} {A : Nat → Int32} {st : Nat → Int64} (hp : cP w pst price A st) :
    ∃ A' st', g_X4_refresh 24 3 (nI nd) c2 SE (nI k) price pst A st = some (nI k, 0, A', st') ∧ PlanOK w nd (nI k) A' st' := by
  have h5 : tn (w 5) = nd := by rw [h.2.2.1, tn_of (by have := h.1; omega)]
  unfold g_X4_refresh
  by_cases e : pst = 0
  · rw [if_pos e]
    by_cases e2 : price = nI k
    · rw [if_pos e2]
      have := hp e
      rw [h5, e2] at this
      exact ⟨A, st, by rw [e2, e], this⟩
    · rw [if_neg e2]
      exact x_plan h hc hSE hk price pst A st
  · rw [if_neg e]
    exact x_plan h hc hSE hk price pst A st
theorem pok_most {k : Nat} (hk : k ≤ 9) {A : Nat → Int32} {st : Nat → Int64} (h : PlanOK w nd (nI k) A st) : A 0 = pM w k nd 99 0 ∧ A 1 = pM w k nd 99 1 ∧ ∀ m, m < 99 → ∀ c, c ≤ 99 → c ≤ tn (w 0) * m → g_X4_stepAt st (nI m) (nI c) = some (nI (pP w k nd m c)) := by
  obtain ⟨k', h1, h2, h3, h4, h5⟩ := h
  have : k = k' := (nI_eq (by omega) (by omega)).mp h2
  subst this
  exact ⟨h3, h4, h5⟩
theorem x_most0 (h : PN w fa nd) (hc : ∀ d, d < nd → c2 (3 * d) = w (71 + d) ∧ c2 (3 * d + 1) = w (79 + d) ∧ c2 (3 * d + 2) = w (87 + d)) (hSE : SE 0 = nI fa) {k : Nat} (hk : k ≤ 9) (x : Nat) (hx : x ≤ 1) {pst price : Int32} {A : Nat → Int32} {st : Nat → Int64} (hp : cP w pst price A st) :
    ∃ A' st', g_X4_mostFrom 24 3 (nI nd) c2 SE (nI x) (nI k) price pst A st = some (pM w k nd 99 x, nI k, 0, A', st') ∧ PlanOK w nd (nI k) A' st' := by
  obtain ⟨A', st', q1, q2⟩ := x_plref h hc hSE hk hp
  refine ⟨A', st', ?_, q2⟩
  unfold g_X4_mostFrom
  have h1 : g_X10_isIn (nI x) 0 99 = some 1 := (p_isInN x 0 99 (by omega) (by omega) (by omega)).trans (by rw [if_pos (by omega)])
  rw [q1, pb_some, h1, pb_some, if_neg (by decide)]
  have q3 := pok_most hk q2
  simp (disch := omega) only [n_z1, n_z2, n_z3, n_z4, n_z5, n_z6, n_z7, n_z8, n_leL, n_leR, n_ltL, n_ltR, n_eqL, n_eqR, n_m1R, n_addL, n_addR, n_mulL, n_mulR, n_subR, n_subL, n_add, n_mul, n_neg, n_sub, n_le, n_lt, n_eq, nI_clamp, if_true, if_false, if_pos, if_neg, or_false, false_or, not_false_eq_true, not_true_eq_false]
  rcases (show x = 0 ∨ x = 1 by omega) with e | e
  · subst e; rw [q3.1]
  · subst e; rw [q3.2.1]
theorem x_steps (h : PN w fa nd) {k : Nat} (hk : k ≤ 9) (s2 : Int32) (n : Nat) (hn : n ≤ 98) (x2 : Int32) {A : Nat → Int32} {st : Nat → Int64} (hp : PlanOK w nd (nI k) A st) (pr : Int32) :
    ∀ (j z m : Nat), n - m = j → j < z → m ≤ n → g_X4_stepIn_10 24 3 s2 c2 SE (nI n) x2 z (nI (pC w k nd m)) (nI m) pr 0 A st = some (nI (pP w k nd n (pC w k nd n)), pr, 0, A, st)
  | _, 0, _, _, h, _ => absurd h (Nat.not_lt_zero _)
  | j, z + 1, m, h1, h2, h3 => by
    have hb := h.1
    have q3 := (pok_most hk hp).2.2
    have hc := pC_le w k nd m
    rw [g_X4_stepIn_10]
    unfold g_X4_stepIn_10b g_X4_stepIn_44
    by_cases e : n ≤ m
    · rw [if_pos (show nI n ≤ nI m by simp (disch := omega) only [n_z1, n_z2, n_z3, n_z4, n_z5, n_z6, n_z7, n_z8, n_leL, n_leR, n_ltL, n_ltR, n_eqL, n_eqR, n_m1R, n_addL, n_addR, n_mulL, n_mulR, n_subR, n_subL, n_add, n_mul, n_neg, n_sub, n_le, n_lt, n_eq, nI_clamp, if_true, if_false, if_pos, if_neg, or_false, false_or, not_false_eq_true, not_true_eq_false]; omega)]
      have : m = n := by omega
      subst this
      rw [q3 m (by omega) (pC w k nd m) hc.1 hc.2, pb_some]
    · rw [if_neg (show ¬ nI n ≤ nI m by simp (disch := omega) only [n_z1, n_z2, n_z3, n_z4, n_z5, n_z6, n_z7, n_z8, n_leL, n_leR, n_ltL, n_ltR, n_eqL, n_eqR, n_m1R, n_addL, n_addR, n_mulL, n_mulR, n_subR, n_subL, n_add, n_mul, n_neg, n_sub, n_le, n_lt, n_eq, nI_clamp, if_true, if_false, if_pos, if_neg, or_false, false_or, not_false_eq_true, not_true_eq_false]; omega), if_neg (show ¬ 99 ≤ nI m by simp (disch := omega) only [n_z1, n_z2, n_z3, n_z4, n_z5, n_z6, n_z7, n_z8, n_leL, n_leR, n_ltL, n_ltR, n_eqL, n_eqR, n_m1R, n_addL, n_addR, n_mulL, n_mulR, n_subR, n_subL, n_add, n_mul, n_neg, n_sub, n_le, n_lt, n_eq, nI_clamp, if_true, if_false, if_pos, if_neg, or_false, false_or, not_false_eq_true, not_true_eq_false]; omega), q3 m (by omega) (pC w k nd m) hc.1 hc.2, pb_some]
      have hP : pP w k nd m (pC w k nd m) ≤ tn (w 0) := pG_le _ _
      have h0 : tn (w 0) = fa := by rw [h.2.1, tn_of (by omega)]
      have hi : (if (99 : Int32) < nI (pC w k nd m) + nI (pP w k nd m (pC w k nd m)) then (99 : Int32) else nI (pC w k nd m) + nI (pP w k nd m (pC w k nd m))) = nI (pC w k nd (m + 1)) := by
        rw [pC]
        by_cases e1 : 99 < pC w k nd m + pP w k nd m (pC w k nd m)
        · rw [if_pos (by simp (disch := omega) only [n_z1, n_z2, n_z3, n_z4, n_z5, n_z6, n_z7, n_z8, n_leL, n_leR, n_ltL, n_ltR, n_eqL, n_eqR, n_m1R, n_addL, n_addR, n_mulL, n_mulR, n_subR, n_subL, n_add, n_mul, n_neg, n_sub, n_le, n_lt, n_eq, nI_clamp, if_true, if_false, if_pos, if_neg, or_false, false_or, not_false_eq_true, not_true_eq_false]; omega), show min (pC w k nd m + pP w k nd m (pC w k nd m)) 99 = 99 by omega]; rfl
        · rw [if_neg (by simp (disch := omega) only [n_z1, n_z2, n_z3, n_z4, n_z5, n_z6, n_z7, n_z8, n_leL, n_leR, n_ltL, n_ltR, n_eqL, n_eqR, n_m1R, n_addL, n_addR, n_mulL, n_mulR, n_subR, n_subL, n_add, n_mul, n_neg, n_sub, n_le, n_lt, n_eq, nI_clamp, if_true, if_false, if_pos, if_neg, or_false, false_or, not_false_eq_true, not_true_eq_false]; omega), show min (pC w k nd m + pP w k nd m (pC w k nd m)) 99 = pC w k nd m + pP w k nd m (pC w k nd m) by omega, n_add]
      rw [hi, n_addR]
      exact x_steps h hk s2 n hn x2 hp pr (j - 1) z (m + 1) (by omega) (by omega) (by omega)
end
theorem p_price (x : Int32) : g_X10_isPrice x = some (if 0 ≤ x.toInt ∧ x.toInt ≤ 9 then 1 else 0) := by
  unfold g_X10_isPrice
  rw [p_isInZ x 0 9 0 9 rfl rfl]
  by_cases h : 0 ≤ x.toInt ∧ x.toInt ≤ 9
  · rw [if_pos h]; rfl
  · rw [if_neg h]; rfl
theorem zp_best : zstep_best Inv := by
  intro I Aa J V h a1
  obtain ⟨hS, hT, hR, hI, hF, hc, hp⟩ := h
  have hS' := hS
  obtain ⟨np, nt, nd, ns, nr, hG, hC⟩ := hS
  obtain ⟨hN, h5⟩ := pn_of hG
  have hs2 := hC.1.2.2.1
  have hSE : Aa 5 0 = nI (tn (Aa 45 0)) := (hC.2.1 0 (by omega)).trans hN.2.1
  unfold g_X10_best g_X11_best g_X10_refuseWorth g_X11_worse
  rw [p_price, p_inN a1 0 9 0 9 rfl rfl, hr2]
  simp only [pb_some, ite10]
  by_cases e1 : 0 ≤ a1.toInt ∧ a1.toInt ≤ 9
  · rw [if_neg (not_not_intro e1), if_neg (not_not_intro e1)]
    obtain ⟨k, hk, rfl⟩ := i32c e1.1 (n := 9) e1.2
    obtain ⟨A', st', x1, x2⟩ := x_most0 hN hC.2.2.2.2.2.1 hSE hk 0 (by omega) hp
    obtain ⟨T', m1, m2⟩ := m_plans hN k hk (Aa 59)
    have x1' : g_X4_mostFrom 24 3 (I 2) (Aa 2) (Aa 5) 0 (nI k) (I 20) (I 21) (Aa 21) (J 1) = _ := (congrArg (fun s => g_X4_mostFrom 24 3 s (Aa 2) (Aa 5) 0 (nI k) (I 20) (I 21) (Aa 21) (J 1)) hs2).trans x1
    rw [x1', m1, pb_some, pb_some]
    refine ⟨_, _, rfl, rfl, ?_, hS', hT, hR, hI, hF, hc, fun _ => ?_⟩
    · exact (m2 0 0 (by omega) (by omega)).symm
    · show PlanOK (Aa 45) (tn (Aa 45 5)) _ _ _
      rw [h5]; exact x2
  · rw [if_pos e1, if_pos e1]
    exact ⟨_, _, rfl, rfl, rfl, hS', hT, iR_0 hR, hI, hF, hc, hp⟩
theorem zp_minute : zstep_minute Inv := by
  intro I Aa J V h a1
  obtain ⟨hS, hT, hR, hI, hF, hc, hp⟩ := h
  have hS' := hS
  obtain ⟨np, nt, nd, ns, nr, hG, hC⟩ := hS
  obtain ⟨hN, h5⟩ := pn_of hG
  have hs2 := hC.1.2.2.1
  have hSE : Aa 5 0 = nI (tn (Aa 45 0)) := (hC.2.1 0 (by omega)).trans hN.2.1
  unfold g_X10_minute g_X11_minute g_X10_refuseWorth g_X11_worse
  rw [p_price, p_inN a1 0 9 0 9 rfl rfl, hr2]
  simp only [pb_some, ite10]
  by_cases e1 : 0 ≤ a1.toInt ∧ a1.toInt ≤ 9
  · rw [if_neg (not_not_intro e1), if_neg (not_not_intro e1)]
    obtain ⟨k, hk, rfl⟩ := i32c e1.1 (n := 9) e1.2
    obtain ⟨A1, st1, y1, y2⟩ := x_most0 hN hC.2.2.2.2.2.1 hSE hk 1 (by omega) hp
    obtain ⟨A', st', x1, x2⟩ := x_most0 hN hC.2.2.2.2.2.1 hSE hk 0 (by omega) (pst := 0) (price := nI k) (A := A1) (st := st1) (fun _ => by rw [h5]; exact y2)
    obtain ⟨T', m1, m2⟩ := m_plans hN k hk (Aa 59)
    have y1' : g_X4_mostFrom 24 3 (I 2) (Aa 2) (Aa 5) 1 (nI k) (I 20) (I 21) (Aa 21) (J 1) = _ := (congrArg (fun s => g_X4_mostFrom 24 3 s (Aa 2) (Aa 5) 1 (nI k) (I 20) (I 21) (Aa 21) (J 1)) hs2).trans y1
    have x1' : g_X4_mostFrom 24 3 (I 2) (Aa 2) (Aa 5) 0 (nI k) (nI k) 0 A1 st1 = _ := (congrArg (fun s => g_X4_mostFrom 24 3 s (Aa 2) (Aa 5) 0 (nI k) (nI k) 0 A1 st1) hs2).trans x1
    rw [y1', m1, pb_some, pb_some]
    dsimp only
    rw [x1', pb_some]
    refine ⟨_, _, rfl, rfl, ?_, hS', hT, hR, hI, hF, hc, fun _ => ?_⟩
    · show _ = T' 1 - T' 0
      have q0 := m2 0 0 (by omega) (by omega)
      have q1 := m2 0 1 (by omega) (by omega)
      rw [show T' 0 = T' (100 * 0 + 0) from rfl, show T' 1 = T' (100 * 0 + 1) from rfl, q0, q1]
    · show PlanOK (Aa 45) (tn (Aa 45 5)) _ _ _
      rw [h5]; exact x2
  · rw [if_pos e1, if_pos e1]
    exact ⟨_, _, rfl, rfl, rfl, hS', hT, iR_0 hR, hI, hF, hc, hp⟩
theorem zp_step : zstep_step Inv := by
  intro I Aa J V h a1 a2
  obtain ⟨hS, hT, hR, hI, hF, hc, hp⟩ := h
  have hS' := hS
  obtain ⟨np, nt, nd, ns, nr, hG, hC⟩ := hS
  obtain ⟨hN, h5⟩ := pn_of hG
  have hs2 := hC.1.2.2.1
  have hSE : Aa 5 0 = nI (tn (Aa 45 0)) := (hC.2.1 0 (by omega)).trans hN.2.1
  unfold g_X10_step g_X11_step g_X10_step_17 g_X11_step_24
  rw [p_price, p_inN a1 0 9 0 9 rfl rfl, p_isInZ a2 0 98 0 98 rfl rfl, p_inN a2 0 98 0 98 rfl rfl, hr2, hm2]
  simp only [pb_some, ite10]
  by_cases e1 : 0 ≤ a1.toInt ∧ a1.toInt ≤ 9
  · rw [if_neg (not_not_intro e1), if_neg (not_not_intro e1)]
    by_cases e2 : 0 ≤ a2.toInt ∧ a2.toInt ≤ 98
    · rw [if_neg (not_not_intro e2), if_neg (not_not_intro e2)]
      obtain ⟨k, hk, rfl⟩ := i32c e1.1 (n := 9) e1.2
      obtain ⟨n, hn, rfl⟩ := i32c e2.1 (n := 98) e2.2
      obtain ⟨A', st', x1, x2⟩ := x_plref hN hC.2.2.2.2.2.1 hSE hk hp
      obtain ⟨T', m1, m2⟩ := m_plans hN k hk (Aa 59)
      have x1' : g_X4_refresh 24 3 (I 2) (Aa 2) (Aa 5) (nI k) (I 20) (I 21) (Aa 21) (J 1) = _ := (congrArg (fun s => g_X4_refresh 24 3 s (Aa 2) (Aa 5) (nI k) (I 20) (I 21) (Aa 21) (J 1)) hs2).trans x1
      have y1 := x_steps (c2 := Aa 2) (SE := Aa 5) hN hk (I 2) n hn (nI k) x2 (nI k) n zF 0 rfl (by show _ < 65536; omega) (by omega)
      have y1' : g_X4_stepIn_10 24 3 (I 2) (Aa 2) (Aa 5) (nI n) (nI k) zF 0 0 (nI k) 0 A' st' = _ := y1
      have y2 := m_44 hN k hk n hn T' (Aa 51) m2 (n + 1) zF 0 0 rfl (by show _ < 65536; omega) (by omega) (fun e => by omega)
      have y2' : g_X11_step_44 (Aa 45) (nI k) (nI n) zF 0 0 0 (Aa 51) T' = _ := y2
      unfold g_X4_stepIn
      rw [x1', m1, pb_some, pb_some]
      dsimp only
      rw [y1', y2', pb_some]
      refine ⟨_, _, rfl, rfl, rfl, hS', hT, hR, hI, hF, hc, fun _ => ?_⟩
      show PlanOK (Aa 45) (tn (Aa 45 5)) _ _ _
      rw [h5]; exact x2
    · rw [if_pos e2, if_pos e2]
      exact ⟨_, _, rfl, rfl, rfl, hS', hT, iR_0 hR, hI, hF, hc, hp⟩
  · rw [if_pos e1, if_pos e1]
    exact ⟨_, _, rfl, rfl, rfl, hS', hT, iR_0 hR, hI, hF, hc, hp⟩
