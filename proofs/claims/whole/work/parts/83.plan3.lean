/-! THE PLAN: both sides together -/
theorem x_fillL0 (N : Nat) (hN : N < 2000) (x : Int64) : ∀ (k n i : Nat) (f : Nat → Int64), N - i = k → k < n → i ≤ N → g_J7_fill_d0a16_6 N x n (nI i) (nI N) f = some (fun j => if i ≤ j ∧ j < N then x else f j)
  | _, 0, _, _, _, h, _ => absurd h (Nat.not_lt_zero _)
  | k, n + 1, i, f, h1, h2, h3 => by
    rw [g_J7_fill_d0a16_6]
    unfold g_J7_fill_d0a16_6b
    by_cases e : N ≤ i
    · rw [if_pos (show nI N ≤ nI i by simp (disch := omega) only [n_z1, n_z2, n_z3, n_z4, n_z5, n_z6, n_z7, n_z8, n_leL, n_leR, n_ltL, n_ltR, n_eqL, n_eqR, n_m1R, n_addL, n_addR, n_mulL, n_mulR, n_subR, n_subL, n_add, n_mul, n_neg, n_sub, n_le, n_lt, n_eq, nI_clamp, if_true, if_false, if_pos, if_neg, or_false, false_or, not_false_eq_true, not_true_eq_false]; omega)]
      congr 1
      funext j
      rw [if_neg (by omega)]
    · rw [if_neg (show ¬ nI N ≤ nI i by simp (disch := omega) only [n_z1, n_z2, n_z3, n_z4, n_z5, n_z6, n_z7, n_z8, n_leL, n_leR, n_ltL, n_ltR, n_eqL, n_eqR, n_m1R, n_addL, n_addR, n_mulL, n_mulR, n_subR, n_subL, n_add, n_mul, n_neg, n_sub, n_le, n_lt, n_eq, nI_clamp, if_true, if_false, if_pos, if_neg, or_false, false_or, not_false_eq_true, not_true_eq_false]; omega)]
      simp (disch := omega) only [n_z1, n_z2, n_z3, n_z4, n_z5, n_z6, n_z7, n_z8, n_leL, n_leR, n_ltL, n_ltR, n_eqL, n_eqR, n_m1R, n_addL, n_addR, n_mulL, n_mulR, n_subR, n_subL, n_add, n_mul, n_neg, n_sub, n_le, n_lt, n_eq, nI_clamp, if_true, if_false, if_pos, if_neg, or_false, false_or, not_false_eq_true, not_true_eq_false]
      rw [x_fillL0 N hN x (k - 1) n (i + 1) _ (by omega) (by omega) (by omega)]
      congr 1
      funext j
      rw [updL_eq]
      by_cases e2 : j = i
      · subst e2
        rw [if_neg (by omega), if_pos rfl, if_pos (by omega)]
      · by_cases e3 : i ≤ j ∧ j < N
        · rw [if_pos (by omega), if_pos e3]
        · rw [if_neg (by omega), if_neg e3, if_neg e2]
theorem x_fillL (N : Nat) (hN : N < 2000) (x : Int64) (f : Nat → Int64) : g_J7_fill_d0a16 N x f = some (fun j => if j < N then x else f j) := by
  have h := x_fillL0 N hN x N zF 0 f rfl (by show N < 65536; omega) (by omega)
  have e : g_J7_fill_d0a16 N x f = g_J7_fill_d0a16_6 N x zF (nI 0) (nI N) f := rfl
  rw [e, h]
  congr 1
  funext j
  simp
section
variable {w c2 SE : Nat → Int32} {fa nd : Nat}
theorem x_86 (h : PN w fa nd) (hc : ∀ d, d < nd → c2 (3 * d) = w (71 + d) ∧ c2 (3 * d + 1) = w (79 + d) ∧ c2 (3 * d + 2) = w (87 + d)) (hSE : SE 0 = nI fa) {k : Nat} (hk : k ≤ 9) (x1 : Int32) (top : Nat) (ht9 : top ≤ 99) (ht : ∀ d, d < nd → (w (71 + d)).toInt ≤ top) :
    ∀ (j z : Nat) (A : Nat → Int32) (st : Nat → Int64) (s : Nat → Nat → Nat), j < z → j ≤ 99 → (∀ c, c ≤ 99 → c ≤ fa * j + 1 → A c = pM w k nd (99 - j) c) → SS st s → (∀ m, m < j → ∀ c, c < 100 → s m c = 0) → (∀ m, j ≤ m → m < 99 → ∀ c, c < 100 → c ≤ fa * m → s m c = pP w k nd m c) →
      ∃ A' st' s', g_X4_refresh_86 24 3 (nI nd) c2 SE x1 z (nI top) (nI j - 1) (nI k) 0 A st = some (nI k, 0, A', st') ∧ (∀ c, c ≤ 1 → A' c = pM w k nd 99 c) ∧ SS st' s' ∧ (∀ m, m < 99 → ∀ c, c < 100 → c ≤ fa * m → s' m c = pP w k nd m c)
  | _, 0, _, _, _, h, _, _, _, _, _ => absurd h (Nat.not_lt_zero _)
  | 0, z + 1, A, st, s, h1, h2, h3, h4, h5, h6 => by
    rw [g_X4_refresh_86]
    unfold g_X4_refresh_86b
    rw [if_pos (by decide)]
    exact ⟨A, st, s, rfl, fun c hc => h3 c (by omega) (by omega), h4, fun m hm c hc hc2 => h6 m (by omega) hm c hc hc2⟩
  | j + 1, z + 1, A, st, s, h1, h2, h3, h4, h5, h6 => by
    have hb := h.1
    have h0 : tn (w 0) = fa := by rw [h.2.1, tn_of (by omega)]
    rw [g_X4_refresh_86]
    unfold g_X4_refresh_86b
    rw [n_pred (show 0 < j + 1 by omega), Nat.add_sub_cancel, if_neg (nI_pos (show j < 2 ^ 31 by omega))]
    obtain ⟨A1, st1, q1, q2, q3⟩ := x_choose k hk hb.1 hb.2.1 hSE j (by omega) top ht9 A st s h4 (h5 j (by omega))
    rw [q1, pb_some]
    obtain ⟨A2, q4, q5⟩ := x_pay h hc j (by omega) A1
    rw [q4, pb_some, n_neg]
    have hmul : fa * (j + 1) = fa * j + fa := by rw [Nat.mul_add, Nat.mul_one]
    have hin : ∀ c, c ≤ 99 → c ≤ fa * j + 1 → ∀ g, g ≤ fa → A (min (c + g) 99) = pM w k nd (98 - j) (min (c + g) 99) := by
      intro c hc1 hc2 g hg
      have := h3 (min (c + g) 99) (by omega) (by omega)
      rw [show 99 - (j + 1) = 98 - j by omega] at this
      exact this
    have hout : ∀ c, c ≤ 99 → c ≤ fa * j + 1 → ¬ c ≤ min top (fa * j + 1) → pB (fun g => pM w k nd (98 - j) (min (c + g) 99) - nI (k * g)) fa = pM w k nd (98 - j) c ∧ pP w k nd j c = 0 := by
      intro c hc1 hc2 hc3
      have := pB_flat h hk (98 - j) c (by omega) (fun g hg => pM_hi h k top ht9 ht (98 - j) _ _ (by omega) (by omega) (by omega) (by omega))
      rw [show min c 99 = c by omega] at this
      refine ⟨this.1, ?_⟩
      unfold pP
      rw [h0]
      exact this.2
    refine x_86 h hc hSE hk x1 top ht9 ht j z A2 st1 _ (by omega) (by omega) ?_ q3 ?_ ?_
    · intro c hc1 hc2
      rw [q5 c hc1, q2 c hc1, show 99 - j = (98 - j) + 1 by omega, pM, h0, show 98 - (98 - j) = j by omega]
      congr 1
      by_cases e : c ≤ min top (fa * j + 1)
      · rw [if_pos e]
        exact (pB_congr fa (fun g hg => by (try dsimp only); rw [hin c hc1 hc2 g hg])).1
      · rw [if_neg e, (hout c hc1 hc2 e).1]
        have := hin c hc1 hc2 0 (by omega)
        rw [show min (c + 0) 99 = c by omega] at this
        exact this
    · intro m hm c hc9
      (try dsimp only)
      rw [if_neg (by omega)]
      exact h5 m (by omega) c hc9
    · intro m hm1 hm2 c hc9 hc2
      (try dsimp only)
      by_cases e : m = j
      · subst e
        rw [if_pos rfl]
        by_cases e2 : c ≤ min top (fa * m + 1)
        · rw [if_pos e2]
          unfold pP
          rw [h0]
          exact (pB_congr fa (fun g hg => by (try dsimp only); rw [hin c (by omega) (by omega) g hg])).2
        · rw [if_neg e2, (hout c (by omega) (by omega) e2).2]
      · rw [if_neg e]
        exact h6 m (by omega) hm2 c hc9 hc2
theorem x_plan (h : PN w fa nd) (hc : ∀ d, d < nd → c2 (3 * d) = w (71 + d) ∧ c2 (3 * d + 1) = w (79 + d) ∧ c2 (3 * d + 2) = w (87 + d)) (hSE : SE 0 = nI fa) {k : Nat} (hk : k ≤ 9) (p0 s0 : Int32) (A : Nat → Int32) (st : Nat → Int64) :
    ∃ A' st', g_X4_refresh_16 24 3 (nI nd) c2 SE (nI k) p0 s0 A st = some (nI k, 0, A', st') ∧ PlanOK w nd (nI k) A' st' := by
  have hb := h.1
  have h0 : tn (w 0) = fa := by rw [h.2.1, tn_of (by omega)]
  obtain ⟨en, e1, e2, e3⟩ := gr_bd (fun d => w (79 + d)) 99 (by omega) nd (fun d hd => by
    obtain ⟨⟨s, s1, s2⟩, _⟩ := h.2.2.2 d hd
    show 0 ≤ (w (79 + d)).toInt ∧ _
    rw [s2, nI_toInt (by omega)]
    omega)
  obtain ⟨top, t1, t2, t3⟩ := gr_bd (fun d => w (71 + d)) 99 (by omega) nd (fun d hd => by
    obtain ⟨_, ⟨s, s1, s2⟩, _⟩ := h.2.2.2 d hd
    show 0 ≤ (w (71 + d)).toInt ∧ _
    rw [s2, nI_toInt (by omega)]
    omega)
  have g1 : g_X7_greatest 24 3 (nI nd) c2 1 = some (nI en) := by
    rw [x_greatest (g := fun d => w (79 + d)) (by omega) (fun d hd => by rw [x_at31 hd (by omega) (by omega) (by omega), (hc d hd).2.1]), e2]
  have g0 : g_X7_greatest 24 3 (nI nd) c2 0 = some (nI top) := by
    rw [x_greatest (g := fun d => w (71 + d)) (by omega) (fun d hd => by rw [x_at30 hd (by omega) (by omega) (by omega), (hc d hd).1]), t2]
  have m1 : (if (99 : Int32) < nI en then (99 : Int32) else nI en) = nI en := by
    by_cases e : en = 99
    · subst e; rfl
    · rw [if_neg (by simp (disch := omega) only [n_z1, n_z2, n_z3, n_z4, n_z5, n_z6, n_z7, n_z8, n_leL, n_leR, n_ltL, n_ltR, n_eqL, n_eqR, n_m1R, n_addL, n_addR, n_mulL, n_mulR, n_subR, n_subL, n_add, n_mul, n_neg, n_sub, n_le, n_lt, n_eq, nI_clamp, if_true, if_false, if_pos, if_neg, or_false, false_or, not_false_eq_true, not_true_eq_false]; omega)]
  have m0 : (if (99 : Int32) < nI top then (99 : Int32) else nI top) = nI top := by
    by_cases e : top = 99
    · subst e; rfl
    · rw [if_neg (by simp (disch := omega) only [n_z1, n_z2, n_z3, n_z4, n_z5, n_z6, n_z7, n_z8, n_leL, n_leR, n_ltL, n_ltR, n_eqL, n_eqR, n_m1R, n_addL, n_addR, n_mulL, n_mulR, n_subR, n_subL, n_add, n_mul, n_neg, n_sub, n_le, n_lt, n_eq, nI_clamp, if_true, if_false, if_pos, if_neg, or_false, false_or, not_false_eq_true, not_true_eq_false]; omega)]
  unfold g_X4_refresh_16
  rw [x_fill 100 (by omega), pb_some, x_fillL 495 (by omega), pb_some, g1, pb_some, g0, pb_some, m1, m0]
  obtain ⟨A1, q1, q2⟩ := x_pay h hc en (by omega) (fun j => if j < 100 then (0 : Int32) else A j)
  rw [q1, pb_some]
  have hA : ∀ c, c ≤ 99 → A1 c = pM w k nd (99 - en) c := by
    intro c hc9
    rw [q2 c hc9]
    (try dsimp only)
    rw [if_pos (by omega), Int32.zero_add]
    by_cases e : en = 99
    · subst e
      rw [show 99 - 99 = 0 from rfl, pM]
    · rw [show 99 - en = (98 - en) + 1 by omega, pM, h0, show 98 - (98 - en) = en by omega]
      rw [(pB_flat h hk (98 - en) c (by omega) (fun g hg => by rw [pM_end h hk en e3 (by omega) _ _ (by omega), pM_end h hk en e3 (by omega) _ _ (by omega)])).1, pM_end h hk en e3 (by omega) _ _ (by omega), Int32.zero_add]
  have hS : SS (fun j => if j < 495 then (0 : Int64) else st j) (fun _ _ => 0) := by
    intro m hm c hc9 b hb
    (try dsimp only)
    rw [if_pos (by omega), Nat.zero_testBit]
    simp
  obtain ⟨A', st', s', y1, y2, y3, y4⟩ := x_86 h hc hSE hk (nI k) top t1 t3 en zF A1 _ (fun _ _ => 0) (by show _ < 65536; omega) e1 (fun c hc1 _ => hA c hc1) hS (fun _ _ _ _ => rfl) (fun m hm1 hm2 c hc9 hc2 => by
    unfold pP
    rw [h0]
    exact ((pB_flat h hk (98 - m) c (by omega) (fun g hg => by rw [pM_end h hk en e3 (by omega) _ _ (by omega), pM_end h hk en e3 (by omega) _ _ (by omega)])).2).symm)
  refine ⟨A', st', y1, k, hk, rfl, y2 0 (by omega), y2 1 (by omega), fun m hm c hc9 hc2 => ?_⟩
  rw [h0] at hc2
  have hp8 : pP w k nd m c ≤ tn (w 0) := pG_le _ _
  have := ss_get y3 m c hm (by omega) (by rw [y4 m hm c (by omega) hc2]; omega)
  rw [this, y4 m hm c (by omega) hc2]
end
