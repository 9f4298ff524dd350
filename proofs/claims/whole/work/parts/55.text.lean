/-! THE RULE: the text of a rule as a row of characters; where the next one stands that is no blank -/
def sk (c : Nat → Int32) (L q : Nat) : Nat := if h : q < L ∧ c q = 32 then sk c L (q + 1) else q
termination_by L - q
decreasing_by omega
theorem sk_ge (c : Nat → Int32) (L : Nat) : ∀ k q : Nat, L - q ≤ k → q ≤ sk c L q
  | 0, q, h => by rw [sk, dif_neg (by omega)]; exact Nat.le_refl q
  | k + 1, q, h => by
    rw [sk]
    by_cases e : q < L ∧ c q = 32
    · rw [dif_pos e]
      have := sk_ge c L k (q + 1) (by omega)
      omega
    · rw [dif_neg e]; exact Nat.le_refl q
theorem sk_le (c : Nat → Int32) (L : Nat) : ∀ k q : Nat, L - q ≤ k → q ≤ L → sk c L q ≤ L
  | 0, q, h, h2 => by rw [sk, dif_neg (by omega)]; exact h2
  | k + 1, q, h, h2 => by
    rw [sk]
    by_cases e : q < L ∧ c q = 32
    · rw [dif_pos e]
      exact sk_le c L k (q + 1) (by omega) (by omega)
    · rw [dif_neg e]; exact h2
theorem sk_no (c : Nat → Int32) (L : Nat) : ∀ k q : Nat, L - q ≤ k → sk c L q < L → c (sk c L q) ≠ 32
  | 0, q, h => by
    intro h3
    have := sk_ge c L 0 q h
    omega
  | k + 1, q, h => by
    rw [sk]
    by_cases e : q < L ∧ c q = 32
    · rw [dif_pos e]
      exact sk_no c L k (q + 1) (by omega)
    · rw [dif_neg e]; intro h3 h4; exact e ⟨h3, h4⟩
theorem sk_sk (c : Nat → Int32) (L q : Nat) : sk c L (sk c L q) = sk c L q := by
  rw [sk, dif_neg]
  intro h
  exact sk_no c L _ q (Nat.le_refl _) h.1 h.2
theorem sk_end {c : Nat → Int32} {L q : Nat} (h : L ≤ q) : sk c L q = q := by rw [sk, dif_neg (by omega)]
theorem sk_blank {c : Nat → Int32} {L q : Nat} (h : q < L) (hc : c q = 32) : sk c L q = sk c L (q + 1) := by
  rw [sk, dif_pos ⟨h, hc⟩]
theorem sk_here {c : Nat → Int32} {L q : Nat} (hc : c q ≠ 32) : sk c L q = q := by rw [sk, dif_neg (fun h => hc h.2)]
/-- the sign at hand; behind the last: -1 -/
def ah (c : Nat → Int32) (L q : Nat) : Int32 := if sk c L q < L then c (sk c L q) else -1
theorem ah_sk (c : Nat → Int32) (L q : Nat) : ah c L (sk c L q) = ah c L q := by unfold ah; rw [sk_sk]
theorem ah_of {c : Nat → Int32} {L p q : Nat} (h : sk c L p = sk c L q) : ah c L p = ah c L q := by unfold ah; rw [h]
/-- a text of a rule -/
def TXT (c : Nat → Int32) (L : Nat) : Prop := L ≤ 40 ∧ ∀ j, j < L → 0 ≤ (c j).toInt ∧ (c j).toInt ≤ 127
theorem ah_ne {c : Nat → Int32} {L q : Nat} (hT : TXT c L) (h : ah c L q ≠ -1) : sk c L q < L ∧ ah c L q = c (sk c L q) := by
  unfold ah at h ⊢
  by_cases e : sk c L q < L
  · rw [if_pos e]; exact ⟨e, rfl⟩
  · rw [if_neg e] at h; exact absurd rfl h
theorem ah_end {c : Nat → Int32} {L q : Nat} (hT : TXT c L) (h : ah c L q = -1) : L ≤ sk c L q := by
  unfold ah at h
  by_cases e : sk c L q < L
  · rw [if_pos e] at h
    have := (hT.2 _ e).1
    rw [h] at this
    exact absurd this (by decide)
  · omega
theorem ah_lt {c : Nat → Int32} {L q : Nat} (h : sk c L q < L) : ah c L q = c (sk c L q) := by unfold ah; rw [if_pos h]
theorem ah_gt {c : Nat → Int32} {L q : Nat} (h : ¬ sk c L q < L) : ah c L q = -1 := by unfold ah; rw [if_neg h]
/-- the class's rule cells, and the reference's row, hold the text -/
theorem x_at {f c : Nat → Int32} {L q : Nat} (hf : ∀ j, j < L → f j = c j) (hL : L ≤ 40) (h : q < L) : g_X7_at 40 1 (nI L) f (nI q) 0 = some (c q) := by
  have := p_at (N := 40) (n := L) (w := 1) (k := q) (c := 0) (f := f) (W9 := 1) (C9 := 0) rfl rfl h (by omega) (by omega) (by omega) (by omega) (by omega)
  rw [this, Nat.mul_one, Nat.add_zero, hf q h]
theorem x_at_end {f : Nat → Int32} {L q : Nat} (hL : L ≤ 40) (h : L ≤ q) (hq : q < 1000) : g_X7_at 40 1 (nI L) f (nI q) 0 = some 0 := by
  unfold g_X7_at
  simp (disch := omega) only [n_z1, n_z2, n_z3, n_z4, n_z5, n_z6, n_z7, n_z8, n_leL, n_leR, n_ltL, n_ltR, n_eqL, n_eqR, n_m1R, n_addL, n_addR, n_mulL, n_mulR, n_subR, n_subL, n_add, n_mul, n_neg, n_sub, n_le, n_lt, n_eq, nI_clamp, if_true, if_false, if_pos, if_neg, or_false, false_or, not_false_eq_true, not_true_eq_false]
theorem x_ahead0 {f c : Nat → Int32} {L : Nat} (hf : ∀ j, j < L → f j = c j) (hL : L ≤ 40) : ∀ (k n q : Nat), L - q ≤ k → k < n → q < 1000 → g_X8_ahead_0 40 1 (nI L) f n (nI q) = some (ah c L q, nI (sk c L q))
  | _, 0, _, _, h, _ => absurd h (Nat.not_lt_zero _)
  | k, n + 1, q, h1, h2, h3 => by
    show g_X8_ahead_0b 40 1 (nI L) f (g_X8_ahead_0 40 1 (nI L) f n) (nI q) = _
    unfold g_X8_ahead_0b g_X8_ahead_50
    show (some (nI L)).bind _ = _
    rw [pb_some]
    by_cases e : L ≤ q
    · simp (disch := omega) only [n_z1, n_z2, n_z3, n_z4, n_z5, n_z6, n_z7, n_z8, n_leL, n_leR, n_ltL, n_ltR, n_eqL, n_eqR, n_m1R, n_addL, n_addR, n_mulL, n_mulR, n_subR, n_subL, n_add, n_mul, n_neg, n_sub, n_le, n_lt, n_eq, nI_clamp, if_true, if_false, if_pos, if_neg, or_false, false_or, not_false_eq_true, not_true_eq_false]
      show (some (nI L)).bind _ = _
      rw [pb_some]
      simp (disch := omega) only [n_z1, n_z2, n_z3, n_z4, n_z5, n_z6, n_z7, n_z8, n_leL, n_leR, n_ltL, n_ltR, n_eqL, n_eqR, n_m1R, n_addL, n_addR, n_mulL, n_mulR, n_subR, n_subL, n_add, n_mul, n_neg, n_sub, n_le, n_lt, n_eq, nI_clamp, if_true, if_false, if_pos, if_neg, or_false, false_or, not_false_eq_true, not_true_eq_false]
      rw [sk_end e, ah_gt (by rw [sk_end e]; omega)]
    · simp (disch := omega) only [n_z1, n_z2, n_z3, n_z4, n_z5, n_z6, n_z7, n_z8, n_leL, n_leR, n_ltL, n_ltR, n_eqL, n_eqR, n_m1R, n_addL, n_addR, n_mulL, n_mulR, n_subR, n_subL, n_add, n_mul, n_neg, n_sub, n_le, n_lt, n_eq, nI_clamp, if_true, if_false, if_pos, if_neg, or_false, false_or, not_false_eq_true, not_true_eq_false, x_at hf hL (show q < L by omega), pb_some]
      by_cases e2 : c q = 32
      · rw [if_pos e2]
        rw [sk_blank (by omega) e2, ah_of (sk_blank (by omega) e2)]
        exact x_ahead0 hf hL (k - 1) n (q + 1) (by omega) (by omega) (by omega)
      · rw [if_neg e2]
        show (some (nI L)).bind _ = _
        rw [pb_some]
        simp (disch := omega) only [n_z1, n_z2, n_z3, n_z4, n_z5, n_z6, n_z7, n_z8, n_leL, n_leR, n_ltL, n_ltR, n_eqL, n_eqR, n_m1R, n_addL, n_addR, n_mulL, n_mulR, n_subR, n_subL, n_add, n_mul, n_neg, n_sub, n_le, n_lt, n_eq, nI_clamp, if_true, if_false, if_pos, if_neg, or_false, false_or, not_false_eq_true, not_true_eq_false, pb_some]
        rw [sk_here e2, ah_lt (by rw [sk_here e2]; omega), sk_here e2]
theorem x_ahead {f c : Nat → Int32} {L q : Nat} (hf : ∀ j, j < L → f j = c j) (hL : L ≤ 40) (h3 : q < 1000) : g_X8_ahead 40 1 (nI L) f (nI q) = some (ah c L q, nI (sk c L q)) :=
  x_ahead0 hf hL 40 zF q (by omega) (by decide) h3
theorem m_here0 {w c : Nat → Int32} {L : Nat} (hw : w 7 = nI L) (hf : ∀ j, j < L → w (115 + j) = c j) (hL : L ≤ 40) : ∀ (k n q : Nat), L - q ≤ k → k < n → q < 1000 → g_X11_here_0 w n (nI q) = some (ah c L q, nI (sk c L q))
  | _, 0, _, _, h, _ => absurd h (Nat.not_lt_zero _)
  | k, n + 1, q, h1, h2, h3 => by
    show g_X11_here_0b w (g_X11_here_0 w n) (nI q) = _
    unfold g_X11_here_0b g_X11_here_44
    by_cases e : L ≤ q
    · simp (disch := omega) only [n_z1, n_z2, n_z3, n_z4, n_z5, n_z6, n_z7, n_z8, n_leL, n_leR, n_ltL, n_ltR, n_eqL, n_eqR, n_m1R, n_addL, n_addR, n_mulL, n_mulR, n_subR, n_subL, n_add, n_mul, n_neg, n_sub, n_le, n_lt, n_eq, nI_clamp, if_true, if_false, if_pos, if_neg, or_false, false_or, not_false_eq_true, not_true_eq_false, hw]
      rw [sk_end e, ah_gt (by rw [sk_end e]; omega)]
    · simp (disch := omega) only [n_z1, n_z2, n_z3, n_z4, n_z5, n_z6, n_z7, n_z8, n_leL, n_leR, n_ltL, n_ltR, n_eqL, n_eqR, n_m1R, n_addL, n_addR, n_mulL, n_mulR, n_subR, n_subL, n_add, n_mul, n_neg, n_sub, n_le, n_lt, n_eq, nI_clamp, if_true, if_false, if_pos, if_neg, or_false, false_or, not_false_eq_true, not_true_eq_false, hw, hf q (show q < L by omega)]
      by_cases e2 : c q = 32
      · rw [if_pos e2]
        rw [sk_blank (by omega) e2, ah_of (sk_blank (by omega) e2)]
        exact m_here0 hw hf hL (k - 1) n (q + 1) (by omega) (by omega) (by omega)
      · rw [if_neg e2]
        rw [sk_here e2, ah_lt (by rw [sk_here e2]; omega), sk_here e2]
theorem m_here {w c : Nat → Int32} {L q : Nat} (hw : w 7 = nI L) (hf : ∀ j, j < L → w (115 + j) = c j) (hL : L ≤ 40) (h3 : q < 1000) : g_X11_here w (nI q) = some (ah c L q, nI (sk c L q)) :=
  m_here0 hw hf hL 40 zF q (by omega) (by decide) h3
