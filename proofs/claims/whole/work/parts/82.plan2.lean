/-! THE PLAN: the class's row, in place -/
def SS (st : Nat → Int64) (s : Nat → Nat → Nat) : Prop := ∀ m, m < 99 → ∀ c, c < 100 → SB (st (5 * m + c / 20)) (c % 20) (s m c)
theorem x_keep {st : Nat → Int64} {s : Nat → Nat → Nat} (h : SS st s) (m c x : Nat) (hm : m < 99) (hc : c < 100) (hx : x < 8) (h0 : s m c = 0) : ∃ st', g_X4_keepStep (nI m) (nI c) (nI x) st = some st' ∧ SS st' (fun m' c' => if m' = m ∧ c' = c then x else s m' c') := by
  unfold g_X4_keepStep
  have h1 : g_X10_isIn (nI m) 0 98 = some 1 := (p_isInN m 0 98 (by omega) (by omega) (by omega)).trans (by rw [if_pos (by omega)])
  have h2 : g_X10_isIn (nI c) 0 99 = some 1 := (p_isInN c 0 99 (by omega) (by omega) (by omega)).trans (by rw [if_pos (by omega)])
  rw [h1, h2, pb_some, pb_some, if_neg (by decide), if_neg (by decide)]
  rw [show (20 : Int32) = nI 20 from rfl, n_div (show c < 2 ^ 31 by omega) (by omega) (by omega)]
  simp (disch := omega) only [n_z1, n_z2, n_z3, n_z4, n_z5, n_z6, n_z7, n_z8, n_leL, n_leR, n_ltL, n_ltR, n_eqL, n_eqR, n_m1R, n_addL, n_addR, n_mulL, n_mulR, n_subR, n_subL, n_add, n_mul, n_neg, n_sub, n_le, n_lt, n_eq, nI_clamp, if_true, if_false, if_pos, if_neg, or_false, false_or, not_false_eq_true, not_true_eq_false]
  rw [show c - c / 20 * 20 = c % 20 by omega, show m * 5 + c / 20 = 5 * m + c / 20 by omega]
  refine ⟨_, rfl, fun m' hm' c' hc' => ?_⟩
  rw [updL_eq]
  dsimp only
  by_cases e : 5 * m' + c' / 20 = 5 * m + c / 20
  · rw [if_pos e]
    have q := sb_or (st (5 * m + c / 20)) (c % 20) (c' % 20) x (s m' c') (by omega) (by omega) hx (by rw [← e]; exact h m' hm' c' hc') (fun h => by
      have e1 : m' = m := by omega
      have e2 : c' = c := by omega
      rw [e1, e2]; exact h0)
    by_cases e3 : c' % 20 = c % 20
    · rw [if_pos e3] at q
      rw [if_pos (by omega)]
      exact q
    · rw [if_neg e3] at q
      rw [if_neg (by omega)]
      exact q
  · rw [if_neg e, if_neg (by omega)]
    exact h m' hm' c' hc'
theorem ss_get {st : Nat → Int64} {s : Nat → Nat → Nat} (h : SS st s) (m c : Nat) (hm : m < 99) (hc : c < 100) (h8 : s m c < 8) : g_X4_stepAt st (nI m) (nI c) = some (nI (s m c)) := by
  unfold g_X4_stepAt
  have h1 : g_X10_isIn (nI m) 0 98 = some 1 := (p_isInN m 0 98 (by omega) (by omega) (by omega)).trans (by rw [if_pos (by omega)])
  have h2 : g_X10_isIn (nI c) 0 99 = some 1 := (p_isInN c 0 99 (by omega) (by omega) (by omega)).trans (by rw [if_pos (by omega)])
  rw [h1, h2, pb_some, pb_some, if_neg (by decide), if_neg (by decide)]
  rw [show (20 : Int32) = nI 20 from rfl, n_div (show c < 2 ^ 31 by omega) (by omega) (by omega)]
  simp (disch := omega) only [n_z1, n_z2, n_z3, n_z4, n_z5, n_z6, n_z7, n_z8, n_leL, n_leR, n_ltL, n_ltR, n_eqL, n_eqR, n_m1R, n_addL, n_addR, n_mulL, n_mulR, n_subR, n_subL, n_add, n_mul, n_neg, n_sub, n_le, n_lt, n_eq, nI_clamp, if_true, if_false, if_pos, if_neg, or_false, false_or, not_false_eq_true, not_true_eq_false]
  rw [show c - c / 20 * 20 = c % 20 by omega, show m * 5 + c / 20 = 5 * m + c / 20 by omega, sb_get _ _ _ (by omega) h8 (h m hm c hc)]
section
variable {w c2 : Nat → Int32} {fa nd : Nat}
theorem x_63 (s2 m : Int32) (k2 : Int32 → (Nat → Int32) → Option (Nat → Int32)) (d : Nat) (x : Int32) : ∀ (j z c : Nat) (A : Nat → Int32), 100 - c = j → j < z → c ≤ 100 → ∃ A', g_X4_payDues_63 24 3 s2 c2 m k2 z (nI d) x (nI c) A = k2 (nI (d + 1)) A' ∧ ∀ i, A' i = if c ≤ i ∧ i ≤ 99 then A i + x else A i
  | _, 0, _, _, _, h, _ => absurd h (Nat.not_lt_zero _)
  | j, z + 1, c, A, h1, h2, h3 => by
    rw [g_X4_payDues_63]
    unfold g_X4_payDues_63b g_X4_payDues_87
    by_cases e : 99 < c
    · rw [if_pos (show 99 < nI c by simp (disch := omega) only [n_z1, n_z2, n_z3, n_z4, n_z5, n_z6, n_z7, n_z8, n_leL, n_leR, n_ltL, n_ltR, n_eqL, n_eqR, n_m1R, n_addL, n_addR, n_mulL, n_mulR, n_subR, n_subL, n_add, n_mul, n_neg, n_sub, n_le, n_lt, n_eq, nI_clamp, if_true, if_false, if_pos, if_neg, or_false, false_or, not_false_eq_true, not_true_eq_false]; omega), n_addR]
      exact ⟨A, rfl, fun i => by rw [if_neg (by omega)]⟩
    · simp (disch := omega) only [n_z1, n_z2, n_z3, n_z4, n_z5, n_z6, n_z7, n_z8, n_leL, n_leR, n_ltL, n_ltR, n_eqL, n_eqR, n_m1R, n_addL, n_addR, n_mulL, n_mulR, n_subR, n_subL, n_add, n_mul, n_neg, n_sub, n_le, n_lt, n_eq, nI_clamp, if_true, if_false, if_pos, if_neg, or_false, false_or, not_false_eq_true, not_true_eq_false]
      obtain ⟨A', q1, q2⟩ := x_63 s2 m k2 d x (j - 1) z (c + 1) (upd A c (A c + x)) (by omega) (by omega) (by omega)
      refine ⟨A', q1, fun i => ?_⟩
      rw [q2, upd_eq]
      by_cases e2 : i = c
      · subst e2
        rw [if_neg (by omega), if_pos rfl, if_pos (by omega)]
      · by_cases e3 : c ≤ i ∧ i ≤ 99
        · rw [if_pos (by omega), if_pos e3, if_neg e2]
        · rw [if_neg (by omega), if_neg e2, if_neg e3]
theorem x_pay2 (h : PN w fa nd) (hc : ∀ d, d < nd → c2 (3 * d) = w (71 + d) ∧ c2 (3 * d + 1) = w (79 + d) ∧ c2 (3 * d + 2) = w (87 + d)) (m : Nat) (hm : m < 1000) (A0 : Nat → Int32) :
    ∀ (j z d : Nat) (A : Nat → Int32), nd - d = j → j < z → d ≤ nd → (∀ c, c ≤ 99 → A c = A0 c + pS w m c d) → ∃ A', g_X4_payDues_2 24 3 (nI nd) c2 (nI m) z (nI d) A = some A' ∧ ∀ c, c ≤ 99 → A' c = A0 c + pS w m c nd
  | _, 0, _, _, _, h, _, _ => absurd h (Nat.not_lt_zero _)
  | j, z + 1, d, A, h1, h2, h3, h4 => by
    have hb := h.1
    rw [g_X4_payDues_2]
    unfold g_X4_payDues_2b g_X4_payDues_87 g_X7_size
    rw [pb_some]
    by_cases e : nd ≤ d
    · rw [if_pos (show nI nd ≤ nI d by simp (disch := omega) only [n_z1, n_z2, n_z3, n_z4, n_z5, n_z6, n_z7, n_z8, n_leL, n_leR, n_ltL, n_ltR, n_eqL, n_eqR, n_m1R, n_addL, n_addR, n_mulL, n_mulR, n_subR, n_subL, n_add, n_mul, n_neg, n_sub, n_le, n_lt, n_eq, nI_clamp, if_true, if_false, if_pos, if_neg, or_false, false_or, not_false_eq_true, not_true_eq_false]; omega)]
      rw [show d = nd by omega] at h4
      exact ⟨A, rfl, h4⟩
    · have hd := hc d (by omega)
      obtain ⟨⟨s, s1, s2⟩, ⟨cl, l1, l2⟩, _⟩ := h.2.2.2 d (by omega)
      rw [if_neg (show ¬ nI nd ≤ nI d by simp (disch := omega) only [n_z1, n_z2, n_z3, n_z4, n_z5, n_z6, n_z7, n_z8, n_leL, n_leR, n_ltL, n_ltR, n_eqL, n_eqR, n_m1R, n_addL, n_addR, n_mulL, n_mulR, n_subR, n_subL, n_add, n_mul, n_neg, n_sub, n_le, n_lt, n_eq, nI_clamp, if_true, if_false, if_pos, if_neg, or_false, false_or, not_false_eq_true, not_true_eq_false]; omega), x_at31 (by omega) (by omega) (by omega) (by omega), pb_some, hd.2.1, n_addR]
      by_cases e1 : w (79 + d) = nI m
      · rw [if_pos e1, x_at32 (by omega) (by omega) (by omega) (by omega), pb_some, x_at30 (by omega) (by omega) (by omega) (by omega), pb_some, hd.1, hd.2.2, l2, if_neg (nI_pos (by omega))]
        obtain ⟨A1, q1, q2⟩ := x_63 (c2 := c2) (nI nd) (nI m) (g_X4_payDues_2 24 3 (nI nd) c2 (nI m) z) d (w (87 + d)) (100 - cl) zF cl A rfl (by show _ < 65536; omega) (by omega)
        rw [q1]
        refine x_pay2 h hc m hm A0 (j - 1) z (d + 1) A1 (by omega) (by omega) (by omega) (fun c hc9 => ?_)
        rw [q2, pS, l2]
        by_cases e2 : cl ≤ c
        · rw [if_pos (by omega), if_pos ⟨e1, by simp (disch := omega) only [n_z1, n_z2, n_z3, n_z4, n_z5, n_z6, n_z7, n_z8, n_leL, n_leR, n_ltL, n_ltR, n_eqL, n_eqR, n_m1R, n_addL, n_addR, n_mulL, n_mulR, n_subR, n_subL, n_add, n_mul, n_neg, n_sub, n_le, n_lt, n_eq, nI_clamp, if_true, if_false, if_pos, if_neg, or_false, false_or, not_false_eq_true, not_true_eq_false]; exact e2⟩, h4 c hc9, Int32.add_assoc]
        · rw [if_neg (by omega), if_neg (fun q => e2 (by have := q.2; revert this; simp (disch := omega) only [n_z1, n_z2, n_z3, n_z4, n_z5, n_z6, n_z7, n_z8, n_leL, n_leR, n_ltL, n_ltR, n_eqL, n_eqR, n_m1R, n_addL, n_addR, n_mulL, n_mulR, n_subR, n_subL, n_add, n_mul, n_neg, n_sub, n_le, n_lt, n_eq, nI_clamp, if_true, if_false, if_pos, if_neg, or_false, false_or, not_false_eq_true, not_true_eq_false]; exact id)), h4 c hc9, Int32.add_zero]
      · rw [if_neg e1]
        refine x_pay2 h hc m hm A0 (j - 1) z (d + 1) A (by omega) (by omega) (by omega) (fun c hc9 => ?_)
        rw [pS, if_neg (fun q => e1 q.1), h4 c hc9, Int32.add_zero]
theorem x_pay (h : PN w fa nd) (hc : ∀ d, d < nd → c2 (3 * d) = w (71 + d) ∧ c2 (3 * d + 1) = w (79 + d) ∧ c2 (3 * d + 2) = w (87 + d)) (m : Nat) (hm : m < 1000) (A : Nat → Int32) : ∃ A', g_X4_payDues 24 3 (nI nd) c2 (nI m) A = some A' ∧ ∀ c, c ≤ 99 → A' c = A c + pS w m c nd := by
  have hb := h.1
  exact x_pay2 h hc m hm A nd zF 0 A rfl (by show _ < 65536; omega) (by omega) (fun c _ => by rw [pS, Int32.add_zero])
theorem x_46 (k : Nat) (hk : k ≤ 9) (hf4 : fa ≤ 4) (SE : Nat → Int32) (m : Nat) (x2 hg : Int32) (k24 : Int32 → Int32 → Int32 → (Nat → Int32) → (Nat → Int64) → Option ((Nat → Int32) × (Nat → Int64))) (c : Nat) (hc : c ≤ 99) (A : Nat → Int32) (st : Nat → Int64) :
    ∀ (j z g : Nat), fa - g = j → j < z → g ≤ fa → g_X4_chooseSteps_46 (nI k) SE (nI m) x2 k24 z (nI fa) hg (nI c) (pB (fun g => A (min (c + g) 99) - nI (k * g)) g) (nI (pG (fun g => A (min (c + g) 99) - nI (k * g)) g)) (nI (g + 1)) A st =
      (g_X4_keepStep (nI m) (nI c) (nI (pG (fun g => A (min (c + g) 99) - nI (k * g)) fa)) st).bind fun v => k24 (nI fa) hg (nI (c + 1)) (upd A c (pB (fun g => A (min (c + g) 99) - nI (k * g)) fa)) v
  | _, 0, _, _, h, _ => absurd h (Nat.not_lt_zero _)
  | j, z + 1, g, h1, h2, h3 => by
    rw [g_X4_chooseSteps_46]
    unfold g_X4_chooseSteps_46b g_X4_chooseSteps_92
    by_cases e : fa < g + 1
    · simp (disch := omega) only [n_z1, n_z2, n_z3, n_z4, n_z5, n_z6, n_z7, n_z8, n_leL, n_leR, n_ltL, n_ltR, n_eqL, n_eqR, n_m1R, n_addL, n_addR, n_mulL, n_mulR, n_subR, n_subL, n_add, n_mul, n_neg, n_sub, n_le, n_lt, n_eq, nI_clamp, if_true, if_false, if_pos, if_neg, or_false, false_or, not_false_eq_true, not_true_eq_false]
      rw [show g = fa by omega]
    · rw [if_neg (show ¬ nI fa < nI (g + 1) by simp (disch := omega) only [n_z1, n_z2, n_z3, n_z4, n_z5, n_z6, n_z7, n_z8, n_leL, n_leR, n_ltL, n_ltR, n_eqL, n_eqR, n_m1R, n_addL, n_addR, n_mulL, n_mulR, n_subR, n_subL, n_add, n_mul, n_neg, n_sub, n_le, n_lt, n_eq, nI_clamp, if_true, if_false, if_pos, if_neg, or_false, false_or, not_false_eq_true, not_true_eq_false]; omega)]
      have ih := x_46 k hk hf4 SE m x2 hg k24 c hc A st (j - 1) z (g + 1) (by omega) (by omega) (by omega)
      have hi : (if (99 : Int32) < nI c + nI (g + 1) then (99 : Int32) else nI c + nI (g + 1)) = nI (min (c + (g + 1)) 99) := by
        by_cases e1 : 99 < c + (g + 1)
        · rw [if_pos (by simp (disch := omega) only [n_z1, n_z2, n_z3, n_z4, n_z5, n_z6, n_z7, n_z8, n_leL, n_leR, n_ltL, n_ltR, n_eqL, n_eqR, n_m1R, n_addL, n_addR, n_mulL, n_mulR, n_subR, n_subL, n_add, n_mul, n_neg, n_sub, n_le, n_lt, n_eq, nI_clamp, if_true, if_false, if_pos, if_neg, or_false, false_or, not_false_eq_true, not_true_eq_false]; omega), show min (c + (g + 1)) 99 = 99 by omega]; rfl
        · rw [if_neg (by simp (disch := omega) only [n_z1, n_z2, n_z3, n_z4, n_z5, n_z6, n_z7, n_z8, n_leL, n_leR, n_ltL, n_ltR, n_eqL, n_eqR, n_m1R, n_addL, n_addR, n_mulL, n_mulR, n_subR, n_subL, n_add, n_mul, n_neg, n_sub, n_le, n_lt, n_eq, nI_clamp, if_true, if_false, if_pos, if_neg, or_false, false_or, not_false_eq_true, not_true_eq_false]; omega), show min (c + (g + 1)) 99 = c + (g + 1) by omega, n_add]
      have hle : min (c + (g + 1)) 99 ≤ 99 := by omega
      rw [hi]
      simp (disch := omega) only [n_z1, n_z2, n_z3, n_z4, n_z5, n_z6, n_z7, n_z8, n_leL, n_leR, n_ltL, n_ltR, n_eqL, n_eqR, n_m1R, n_addL, n_addR, n_mulL, n_mulR, n_subR, n_subL, n_add, n_mul, n_neg, n_sub, n_le, n_lt, n_eq, nI_clamp, if_true, if_false, if_pos, if_neg, or_false, false_or, not_false_eq_true, not_true_eq_false]
      rw [pB, pG] at ih
      by_cases e2 : pB (fun g => A (min (c + g) 99) - nI (k * g)) g < A (min (c + (g + 1)) 99) - nI (k * (g + 1))
      · rw [if_neg (Int32.not_le.mpr e2)]
        rw [if_pos e2, if_pos e2] at ih
        exact ih
      · rw [if_pos (Int32.not_lt.mp e2)]
        rw [if_neg e2, if_neg e2] at ih
        exact ih
theorem x_24 (k : Nat) (hk : k ≤ 9) (hf4 : fa ≤ 4) (SE : Nat → Int32) (m : Nat) (hm : m < 99) (x2 : Int32) (hg : Nat) (hhg : hg ≤ 99) (A0 : Nat → Int32) (s0 : Nat → Nat → Nat) :
    ∀ (j z c : Nat) (A : Nat → Int32) (st : Nat → Int64), hg + 1 - c = j → j < z → c ≤ hg + 1 → (∀ i, i ≤ 99 → A i = if i < c then pB (fun g => A0 (min (i + g) 99) - nI (k * g)) fa else A0 i) →
      SS st (fun m' c' => if m' = m then (if c' < c then pG (fun g => A0 (min (c' + g) 99) - nI (k * g)) fa else 0) else s0 m' c') →
      ∃ A' st', g_X4_chooseSteps_24 (nI k) SE (nI m) x2 z (nI fa) (nI hg) (nI c) A st = some (A', st') ∧ (∀ i, i ≤ 99 → A' i = if i < hg + 1 then pB (fun g => A0 (min (i + g) 99) - nI (k * g)) fa else A0 i) ∧ SS st' (fun m' c' => if m' = m then (if c' < hg + 1 then pG (fun g => A0 (min (c' + g) 99) - nI (k * g)) fa else 0) else s0 m' c')
  | _, 0, _, _, _, _, h, _, _, _ => absurd h (Nat.not_lt_zero _)
  | j, z + 1, c, A, st, h1, h2, h3, h4, h5 => by
    rw [g_X4_chooseSteps_24]
    unfold g_X4_chooseSteps_24b
    by_cases e : hg < c
    · rw [if_pos (show nI hg < nI c by simp (disch := omega) only [n_z1, n_z2, n_z3, n_z4, n_z5, n_z6, n_z7, n_z8, n_leL, n_leR, n_ltL, n_ltR, n_eqL, n_eqR, n_m1R, n_addL, n_addR, n_mulL, n_mulR, n_subR, n_subL, n_add, n_mul, n_neg, n_sub, n_le, n_lt, n_eq, nI_clamp, if_true, if_false, if_pos, if_neg, or_false, false_or, not_false_eq_true, not_true_eq_false]; omega)]
      rw [show c = hg + 1 by omega] at h4 h5
      exact ⟨A, st, rfl, h4, h5⟩
    · rw [if_neg (show ¬ nI hg < nI c by simp (disch := omega) only [n_z1, n_z2, n_z3, n_z4, n_z5, n_z6, n_z7, n_z8, n_leL, n_leR, n_ltL, n_ltR, n_eqL, n_eqR, n_m1R, n_addL, n_addR, n_mulL, n_mulR, n_subR, n_subL, n_add, n_mul, n_neg, n_sub, n_le, n_lt, n_eq, nI_clamp, if_true, if_false, if_pos, if_neg, or_false, false_or, not_false_eq_true, not_true_eq_false]; omega)]
      simp (disch := omega) only [n_z1, n_z2, n_z3, n_z4, n_z5, n_z6, n_z7, n_z8, n_leL, n_leR, n_ltL, n_ltR, n_eqL, n_eqR, n_m1R, n_addL, n_addR, n_mulL, n_mulR, n_subR, n_subL, n_add, n_mul, n_neg, n_sub, n_le, n_lt, n_eq, nI_clamp, if_true, if_false, if_pos, if_neg, or_false, false_or, not_false_eq_true, not_true_eq_false]
      have hcg : ∀ g, g ≤ fa → A (min (c + g) 99) - nI (k * g) = A0 (min (c + g) 99) - nI (k * g) := fun g hg => by rw [h4 _ (by omega), if_neg (by omega)]
      obtain ⟨b1, b2⟩ := pB_congr (f := fun g => A (min (c + g) 99) - nI (k * g)) (g := fun g => A0 (min (c + g) 99) - nI (k * g)) fa hcg
      have hst : A c = pB (fun g => A (min (c + g) 99) - nI (k * g)) 0 := by
        show A c = A (min (c + 0) 99) - nI (k * 0)
        rw [show min (c + 0) 99 = c by omega, Nat.mul_zero, show nI 0 = 0 from rfl, Int32.sub_zero]
      have q := x_46 (fa := fa) k hk hf4 SE m x2 (nI hg) (g_X4_chooseSteps_24 (nI k) SE (nI m) x2 z) c (by omega) A st fa zF 0 rfl (by show _ < 65536; omega) (by omega)
      rw [← hst] at q
      have q' : g_X4_chooseSteps_46 (nI k) SE (nI m) x2 (g_X4_chooseSteps_24 (nI k) SE (nI m) x2 z) zF (nI fa) (nI hg) (nI c) (A c) 0 1 A st = _ := q
      rw [q', b1, b2]
      have hle := pG_le (fun g => A0 (min (c + g) 99) - nI (k * g)) fa
      obtain ⟨st1, k1, k2⟩ := x_keep h5 m c (pG (fun g => A0 (min (c + g) 99) - nI (k * g)) fa) hm (by omega) (by omega) (by rw [if_pos rfl, if_neg (by omega)])
      rw [k1, pb_some]
      refine x_24 k hk hf4 SE m hm x2 hg hhg A0 s0 (j - 1) z (c + 1) _ st1 (by omega) (by omega) (by omega) ?_ ?_
      · intro i hi
        rw [upd_eq]
        by_cases e2 : i = c
        · subst e2
          rw [if_pos rfl, if_pos (by omega)]
        · rw [if_neg e2, h4 i hi]
          by_cases e3 : i < c
          · rw [if_pos e3, if_pos (by omega)]
          · rw [if_neg e3, if_neg (by omega)]
      · intro m' hm' c' hc'
        have := k2 m' hm' c' hc'
        dsimp only at this ⊢
        by_cases e2 : m' = m
        · rw [if_pos e2] at this ⊢
          by_cases e3 : c' = c
          · subst e3
            rw [if_pos ⟨e2, rfl⟩] at this
            rw [if_pos (by omega)]
            exact this
          · rw [if_neg (fun h => e3 h.2)] at this
            by_cases e4 : c' < c
            · rw [if_pos e4] at this
              rw [if_pos (by omega)]
              exact this
            · rw [if_neg e4] at this
              rw [if_neg (by omega)]
              exact this
        · rw [if_neg e2] at this ⊢
          rw [if_neg (fun h => e2 h.1)] at this
          exact this
theorem x_choose (k : Nat) (hk : k ≤ 9) (hf1 : 1 ≤ fa) (hf4 : fa ≤ 4) {SE : Nat → Int32} (hSE : SE 0 = nI fa) (m : Nat) (hm : m < 99) (top : Nat) (ht : top ≤ 99) (A : Nat → Int32) (st : Nat → Int64) (s0 : Nat → Nat → Nat) (hs : SS st s0) (h0 : ∀ c, c < 100 → s0 m c = 0) :
    ∃ A' st', g_X4_chooseSteps (nI k) SE (nI m) (nI top) A st = some (A', st') ∧ (∀ i, i ≤ 99 → A' i = if i ≤ min top (fa * m + 1) then pB (fun g => A (min (i + g) 99) - nI (k * g)) fa else A i) ∧ SS st' (fun m' c' => if m' = m then (if c' ≤ min top (fa * m + 1) then pG (fun g => A (min (c' + g) 99) - nI (k * g)) fa else 0) else s0 m' c') := by
  unfold g_X4_chooseSteps
  have hfm : fa * m ≤ 4 * 99 := Nat.mul_le_mul hf4 (by omega)
  have hi : (if nI top < nI fa * nI m + 1 then nI top else nI fa * nI m + 1) = nI (min top (fa * m + 1)) := by
    by_cases e1 : top < fa * m + 1
    · rw [if_pos (by simp (disch := omega) only [n_z1, n_z2, n_z3, n_z4, n_z5, n_z6, n_z7, n_z8, n_leL, n_leR, n_ltL, n_ltR, n_eqL, n_eqR, n_m1R, n_addL, n_addR, n_mulL, n_mulR, n_subR, n_subL, n_add, n_mul, n_neg, n_sub, n_le, n_lt, n_eq, nI_clamp, if_true, if_false, if_pos, if_neg, or_false, false_or, not_false_eq_true, not_true_eq_false]; omega), show min top (fa * m + 1) = top by omega]
    · rw [if_neg (by simp (disch := omega) only [n_z1, n_z2, n_z3, n_z4, n_z5, n_z6, n_z7, n_z8, n_leL, n_leR, n_ltL, n_ltR, n_eqL, n_eqR, n_m1R, n_addL, n_addR, n_mulL, n_mulR, n_subR, n_subL, n_add, n_mul, n_neg, n_sub, n_le, n_lt, n_eq, nI_clamp, if_true, if_false, if_pos, if_neg, or_false, false_or, not_false_eq_true, not_true_eq_false]; omega), show min top (fa * m + 1) = fa * m + 1 by omega]; simp (disch := omega) only [n_z1, n_z2, n_z3, n_z4, n_z5, n_z6, n_z7, n_z8, n_leL, n_leR, n_ltL, n_ltR, n_eqL, n_eqR, n_m1R, n_addL, n_addR, n_mulL, n_mulR, n_subR, n_subL, n_add, n_mul, n_neg, n_sub, n_le, n_lt, n_eq, nI_clamp, if_true, if_false, if_pos, if_neg, or_false, false_or, not_false_eq_true, not_true_eq_false]
  rw [hSE, hi]
  obtain ⟨A', st', q1, q2, q3⟩ := x_24 (fa := fa) k hk hf4 SE m hm (nI top) (min top (fa * m + 1)) (by omega) A s0 (min top (fa * m + 1) + 1) zF 0 A st rfl (by show _ < 65536; omega) (by omega) (fun i hi => by rw [if_neg (by omega)]) (fun m' hm' c' hc' => by
    dsimp only
    have := hs m' hm' c' hc'
    by_cases e : m' = m
    · subst e
      rw [if_pos rfl, if_neg (by omega)]
      rw [h0 c' hc'] at this
      exact this
    · rw [if_neg e]; exact this)
  refine ⟨A', st', q1, fun i hi => ?_, fun m' hm' c' hc' => ?_⟩
  · rw [q2 i hi]
    by_cases e : i ≤ min top (fa * m + 1)
    · rw [if_pos e, if_pos (by omega)]
    · rw [if_neg e, if_neg (by omega)]
  · have := q3 m' hm' c' hc'
    dsimp only at this ⊢
    by_cases e : m' = m
    · rw [if_pos e] at this ⊢
      by_cases e2 : c' ≤ min top (fa * m + 1)
      · rw [if_pos e2]; rw [if_pos (by omega)] at this; exact this
      · rw [if_neg e2]; rw [if_neg (by omega)] at this; exact this
    · rw [if_neg e] at this ⊢
      exact this
theorem pS_hi (h : PN w fa nd) (top m : Nat) (ht : ∀ d, d < nd → (w (71 + d)).toInt ≤ top) (c c' : Nat) (hc : top ≤ c) (hc2 : c < 1000) (hc' : top ≤ c') (hc3 : c' < 1000) : ∀ d, d ≤ nd → pS w m c d = pS w m c' d
  | 0, _ => rfl
  | d + 1, hd => by
    have h1 := ht d (by omega)
    have q1 : w (71 + d) ≤ nI c := by rw [Int32.le_iff_toInt_le, nI_toInt (by omega)]; omega
    have q2 : w (71 + d) ≤ nI c' := by rw [Int32.le_iff_toInt_le, nI_toInt (by omega)]; omega
    rw [pS, pS, pS_hi h top m ht c c' hc hc2 hc' hc3 d (by omega)]
    by_cases e : w (79 + d) = nI m
    · rw [if_pos ⟨e, q1⟩, if_pos ⟨e, q2⟩]
    · rw [if_neg (fun q => e q.1), if_neg (fun q => e q.1)]
theorem pM_hi (h : PN w fa nd) (k top : Nat) (h9 : top ≤ 99) (ht : ∀ d, d < nd → (w (71 + d)).toInt ≤ top) : ∀ (r c c' : Nat), top ≤ c → c < 900 → top ≤ c' → c' < 900 → pM w k nd r c = pM w k nd r c'
  | 0, c, c', h1, h2, h3, h4 => by rw [pM, pM, pS_hi h top 99 ht c c' h1 (by omega) h3 (by omega) nd (Nat.le_refl _)]
  | r + 1, c, c', h1, h2, h3, h4 => by
    rw [pM, pM, pS_hi h top (98 - r) ht c c' h1 (by omega) h3 (by omega) nd (Nat.le_refl _)]
    congr 2
    funext g
    rw [pM_hi h k top h9 ht r (min (c + g) 99) (min (c' + g) 99) (by omega) (by omega) (by omega) (by omega)]
theorem pS_0 {m c : Nat} (he : ∀ d, d < nd → w (79 + d) ≠ nI m) : ∀ d, d ≤ nd → pS w m c d = 0
  | 0, _ => rfl
  | d + 1, hd => by rw [pS, pS_0 he d (by omega), if_neg (fun q => he d (by omega) q.1)]; rfl
/-- a flat future: no step is worth while -/
theorem pB_flat (h : PN w fa nd) {k : Nat} (hk : k ≤ 9) (r c : Nat) (hr : r ≤ 99) (hflat : ∀ g, g ≤ fa → pM w k nd r (min (c + g) 99) = pM w k nd r (min c 99)) : pB (fun g => pM w k nd r (min (c + g) 99) - nI (k * g)) fa = pM w k nd r (min c 99) ∧ pG (fun g => pM w k nd r (min (c + g) 99) - nI (k * g)) fa = 0 := by
  have hb := h.1
  have q := pM_bd h hk r (min c 99) hr
  have e0 : pM w k nd r (min (c + 0) 99) - nI (k * 0) = pM w k nd r (min c 99) := by rw [Nat.mul_zero, show nI 0 = 0 from rfl, Int32.sub_zero, Nat.add_zero]
  obtain ⟨q1, q2⟩ := pB_0 (fun g => pM w k nd r (min (c + g) 99) - nI (k * g)) fa (fun g hg => by
    have q3 := nI_kg hk (show g ≤ 4 by omega)
    rw [e0, hflat g hg, z_sub (by omega) (by omega), q3.1]
    omega)
  exact ⟨q1.trans e0, q2⟩
theorem pM_end (h : PN w fa nd) {k : Nat} (hk : k ≤ 9) (en : Nat) (he : ∀ d, d < nd → (w (79 + d)).toInt ≤ en) (h9 : en ≤ 98) : ∀ (r c : Nat), r ≤ 98 - en → pM w k nd r c = 0
  | 0, c, hr => by
    rw [pM, pS_0 (fun d hd q => ?_) nd (Nat.le_refl _)]
    have := he d hd
    rw [q, nI_toInt (by omega)] at this
    omega
  | r + 1, c, hr => by
    have hb := h.1
    have h0 : tn (w 0) = fa := by rw [h.2.1, tn_of (by omega)]
    rw [pM, pS_0 (fun d hd q => ?_) nd (Nat.le_refl _), h0]
    · rw [(pB_flat h hk r c (by omega) (fun g hg => by rw [pM_end h hk en he h9 r _ (by omega), pM_end h hk en he h9 r _ (by omega)])).1, pM_end h hk en he h9 r _ (by omega)]
      rfl
    · have := he d hd
      rw [q, nI_toInt (by omega)] at this
      omega
end
