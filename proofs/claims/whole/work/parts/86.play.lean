/-! TWO WHO HOLD THEIR TONGUES: the whole play, both sides -/
theorem qv_d (la lb wa wb fee : Int32) (n d r : Nat) : qv la lb wa wb fee n d r d = (wa, wb) := by
  cases r with
  | zero => rw [qv, if_pos rfl]
  | succ r => rw [qv, if_pos rfl]
/-- whether one talks in a minute -/
def qT (la lb wa wb fee : Int32) (n d m g : Nat) : Bool := qt la lb fee m (qv la lb wa wb fee n d (n - m - 1) g) (qv la lb wa wb fee n d (n - m - 1) (g + 1))
section
variable {la lb wa wb fee : Int32} {n d : Nat}
theorem qv_s (m g : Nat) (hm : m < n) (hg : g ≠ d) : qv la lb wa wb fee n d (n - m) g = qn la lb fee m (qv la lb wa wb fee n d (n - m - 1) g) (qv la lb wa wb fee n d (n - m - 1) (g + 1)) := by
  rw [show n - m = (n - m - 1) + 1 by omega, qv, if_neg hg, show n - (n - m - 1 + 1) = m by omega, Nat.add_sub_cancel]
/-- how far the clock goes, and when first one talks -/
def qF (la lb wa wb fee : Int32) (n d : Nat) : Nat → Nat → Int32 → Nat → Int32 × Nat
  | 0, _, f, g => (f, g)
  | k + 1, m, f, g => if d ≤ g then (f, g) else if qT la lb wa wb fee n d m g = true then qF la lb wa wb fee n d k (m + 1) (if f = -1 then nI m else f) (g + 1) else qF la lb wa wb fee n d k (m + 1) f g
theorem qF_le : ∀ (k m : Nat) (f : Int32) (g : Nat), g ≤ d → (qF la lb wa wb fee n d k m f g).2 ≤ d
  | 0, _, _, _, h => h
  | k + 1, m, f, g, h => by
    rw [qF]
    by_cases c : d ≤ g
    · rw [if_pos c]; exact h
    · rw [if_neg c]
      by_cases c2 : qT la lb wa wb fee n d m g = true
      · rw [if_pos c2]; exact qF_le k (m + 1) _ (g + 1) (by omega)
      · rw [if_neg c2]; exact qF_le k (m + 1) f g h
theorem x_102 (SK : Nat → Int32) (hn : n ≤ 40) (hd : d ≤ 20) (H S T : Nat → Int32) (hT : ∀ m, m < n → ∀ g, g < d → TB (T m) g = qT la lb wa wb fee n d m g) :
    ∀ (j z m g : Nat) (f : Int32), n - m = j → j < z → m ≤ n → g ≤ d → g_X5_play_102 SK (nI n) (nI d) z (nI m) f (nI g) H S T = some ((qF la lb wa wb fee n d j m f g).1, nI (qF la lb wa wb fee n d j m f g).2, H, S, T)
  | _, 0, _, _, _, _, h, _, _ => absurd h (Nat.not_lt_zero _)
  | j, z + 1, m, g, f, h1, h2, h3, h4 => by
    rw [g_X5_play_102]
    unfold g_X5_play_102b g_X5_play_151 g_X5_play_164
    by_cases e : n ≤ m
    · rw [if_pos (show nI n ≤ nI m by simp (disch := omega) only [n_z1, n_z2, n_z3, n_z4, n_z5, n_z6, n_z7, n_z8, n_leL, n_leR, n_ltL, n_ltR, n_eqL, n_eqR, n_m1R, n_addL, n_addR, n_mulL, n_mulR, n_subR, n_subL, n_add, n_mul, n_neg, n_sub, n_le, n_lt, n_eq, nI_clamp, if_true, if_false, if_pos, if_neg, or_false, false_or, not_false_eq_true, not_true_eq_false]; omega)]
      rw [show j = 0 by omega]
      rfl
    · rw [if_neg (show ¬ nI n ≤ nI m by simp (disch := omega) only [n_z1, n_z2, n_z3, n_z4, n_z5, n_z6, n_z7, n_z8, n_leL, n_leR, n_ltL, n_ltR, n_eqL, n_eqR, n_m1R, n_addL, n_addR, n_mulL, n_mulR, n_subR, n_subL, n_add, n_mul, n_neg, n_sub, n_le, n_lt, n_eq, nI_clamp, if_true, if_false, if_pos, if_neg, or_false, false_or, not_false_eq_true, not_true_eq_false]; omega)]
      obtain ⟨j, rfl⟩ : ∃ i, j = i + 1 := ⟨j - 1, by omega⟩
      rw [qF]
      by_cases e1 : d ≤ g
      · rw [if_pos (show nI d ≤ nI g by simp (disch := omega) only [n_z1, n_z2, n_z3, n_z4, n_z5, n_z6, n_z7, n_z8, n_leL, n_leR, n_ltL, n_ltR, n_eqL, n_eqR, n_m1R, n_addL, n_addR, n_mulL, n_mulR, n_subR, n_subL, n_add, n_mul, n_neg, n_sub, n_le, n_lt, n_eq, nI_clamp, if_true, if_false, if_pos, if_neg, or_false, false_or, not_false_eq_true, not_true_eq_false]; omega), if_pos e1]
      · rw [if_neg (show ¬ nI d ≤ nI g by simp (disch := omega) only [n_z1, n_z2, n_z3, n_z4, n_z5, n_z6, n_z7, n_z8, n_leL, n_leR, n_ltL, n_ltR, n_eqL, n_eqR, n_m1R, n_addL, n_addR, n_mulL, n_mulR, n_subR, n_subL, n_add, n_mul, n_neg, n_sub, n_le, n_lt, n_eq, nI_clamp, if_true, if_false, if_pos, if_neg, or_false, false_or, not_false_eq_true, not_true_eq_false]; omega), if_neg e1]
        simp (disch := omega) only [n_z1, n_z2, n_z3, n_z4, n_z5, n_z6, n_z7, n_z8, n_leL, n_leR, n_ltL, n_ltR, n_eqL, n_eqR, n_m1R, n_addL, n_addR, n_mulL, n_mulR, n_subR, n_subL, n_add, n_mul, n_neg, n_sub, n_le, n_lt, n_eq, nI_clamp, if_true, if_false, if_pos, if_neg, or_false, false_or, not_false_eq_true, not_true_eq_false]
        have ht := hT m (by omega) g (by omega)
        by_cases e2 : qT la lb wa wb fee n d m g = true
        · rw [if_pos e2, if_neg (fun q => by rw [tb20_0 _ _ (by omega), ht, e2] at q; cases q)]
          by_cases e3 : f = -1
          · rw [if_pos e3, if_pos e3]
            exact x_102 SK hn hd H S T hT j z (m + 1) (g + 1) _ (by omega) (by omega) (by omega) (by omega)
          · rw [if_neg e3, if_neg e3]
            exact x_102 SK hn hd H S T hT j z (m + 1) (g + 1) _ (by omega) (by omega) (by omega) (by omega)
        · rw [if_neg e2, if_pos (by rw [tb20_0 _ _ (by omega), ht]; simpa using e2)]
          exact x_102 SK hn hd H S T hT j z (m + 1) g _ (by omega) (by omega) (by omega) (by omega)
theorem m_414 (w : Nat → Int32) (x3 : Int32) (hn : n ≤ 40) (hd : d ≤ 20) (R T B A : Nat → Int32) (hT : ∀ m, m < n → ∀ g, g < d → T (21 * m + g) = if qT la lb wa wb fee n d m g = true then 1 else 0) :
    ∀ (j z m g : Nat) (f : Int32), n - m = j → j < z → m ≤ n → g ≤ d → g_X11_silence_414 w (nI n) (nI d) x3 z f (nI g) (nI m) R T B A = some (if x3 = 2 then (qF la lb wa wb fee n d j m f g).1 else nI (qF la lb wa wb fee n d j m f g).2, R, T, B, A)
  | _, 0, _, _, _, _, h, _, _ => absurd h (Nat.not_lt_zero _)
  | j, z + 1, m, g, f, h1, h2, h3, h4 => by
    have fin : ∀ f g, g_X11_silence_466 w (nI n) (nI d) x3 f (nI g) R T B A = some (if x3 = 2 then f else nI g, R, T, B, A) := by
      intro f g
      unfold g_X11_silence_466
      by_cases c : x3 = 2
      · rw [if_pos c, if_pos c]
      · rw [if_neg c, if_neg c]
    rw [g_X11_silence_414]
    unfold g_X11_silence_414b g_X11_silence_455 g_X11_silence_460
    by_cases e : n ≤ m
    · rw [if_pos (show nI n ≤ nI m by simp (disch := omega) only [n_z1, n_z2, n_z3, n_z4, n_z5, n_z6, n_z7, n_z8, n_leL, n_leR, n_ltL, n_ltR, n_eqL, n_eqR, n_m1R, n_addL, n_addR, n_mulL, n_mulR, n_subR, n_subL, n_add, n_mul, n_neg, n_sub, n_le, n_lt, n_eq, nI_clamp, if_true, if_false, if_pos, if_neg, or_false, false_or, not_false_eq_true, not_true_eq_false]; omega)]
      rw [show j = 0 by omega, fin]
      rfl
    · rw [if_neg (show ¬ nI n ≤ nI m by simp (disch := omega) only [n_z1, n_z2, n_z3, n_z4, n_z5, n_z6, n_z7, n_z8, n_leL, n_leR, n_ltL, n_ltR, n_eqL, n_eqR, n_m1R, n_addL, n_addR, n_mulL, n_mulR, n_subR, n_subL, n_add, n_mul, n_neg, n_sub, n_le, n_lt, n_eq, nI_clamp, if_true, if_false, if_pos, if_neg, or_false, false_or, not_false_eq_true, not_true_eq_false]; omega)]
      obtain ⟨j, rfl⟩ : ∃ i, j = i + 1 := ⟨j - 1, by omega⟩
      rw [qF]
      by_cases e1 : d ≤ g
      · rw [if_pos (show nI d ≤ nI g by simp (disch := omega) only [n_z1, n_z2, n_z3, n_z4, n_z5, n_z6, n_z7, n_z8, n_leL, n_leR, n_ltL, n_ltR, n_eqL, n_eqR, n_m1R, n_addL, n_addR, n_mulL, n_mulR, n_subR, n_subL, n_add, n_mul, n_neg, n_sub, n_le, n_lt, n_eq, nI_clamp, if_true, if_false, if_pos, if_neg, or_false, false_or, not_false_eq_true, not_true_eq_false]; omega), if_pos e1, fin]
      · rw [if_neg (show ¬ nI d ≤ nI g by simp (disch := omega) only [n_z1, n_z2, n_z3, n_z4, n_z5, n_z6, n_z7, n_z8, n_leL, n_leR, n_ltL, n_ltR, n_eqL, n_eqR, n_m1R, n_addL, n_addR, n_mulL, n_mulR, n_subR, n_subL, n_add, n_mul, n_neg, n_sub, n_le, n_lt, n_eq, nI_clamp, if_true, if_false, if_pos, if_neg, or_false, false_or, not_false_eq_true, not_true_eq_false]; omega), if_neg e1]
        simp (disch := omega) only [n_z1, n_z2, n_z3, n_z4, n_z5, n_z6, n_z7, n_z8, n_leL, n_leR, n_ltL, n_ltR, n_eqL, n_eqR, n_m1R, n_addL, n_addR, n_mulL, n_mulR, n_subR, n_subL, n_add, n_mul, n_neg, n_sub, n_le, n_lt, n_eq, nI_clamp, if_true, if_false, if_pos, if_neg, or_false, false_or, not_false_eq_true, not_true_eq_false, hT m (by omega) g (by omega)]
        by_cases e2 : qT la lb wa wb fee n d m g = true
        · rw [if_pos e2, if_pos e2, if_neg (show ¬ (1 : Int32) = 0 by decide)]
          by_cases e3 : f = -1
          · rw [if_pos e3, if_pos e3]
            exact m_414 w x3 hn hd R T B A hT j z (m + 1) (g + 1) _ (by omega) (by omega) (by omega) (by omega)
          · rw [if_neg e3, if_neg e3]
            exact m_414 w x3 hn hd R T B A hT j z (m + 1) (g + 1) _ (by omega) (by omega) (by omega) (by omega)
        · rw [if_neg e2, if_neg e2, if_pos rfl]
          exact m_414 w x3 hn hd R T B A hT j z (m + 1) g _ (by omega) (by omega) (by omega) (by omega)
theorem x_70 (SK : Nat → Int32) (h0 : SK 0 = la) (h1 : SK 1 = lb) (h4 : SK 4 = fee) (hn : n ≤ 40) (hd : d ≤ 20) : ∀ (j z : Nat) (f g : Int32) (H S T : Nat → Int32), j < z → j ≤ n →
    (∀ i, i ≤ d → H i = (qv la lb wa wb fee n d (n - j) i).1 ∧ S i = (qv la lb wa wb fee n d (n - j) i).2) → (∀ m, j ≤ m → m < n → ∀ g, g < d → TB (T m) g = qT la lb wa wb fee n d m g) →
    ∃ H' S' T', g_X5_play_70 SK (nI n) (nI d) z (nI j - 1) f g H S T = some ((qF la lb wa wb fee n d n 0 (-1) 0).1, nI (qF la lb wa wb fee n d n 0 (-1) 0).2, H', S', T') ∧ H' 0 = (qv la lb wa wb fee n d n 0).1 ∧ S' 0 = (qv la lb wa wb fee n d n 0).2
  | _, 0, _, _, _, _, _, h, _, _, _ => absurd h (Nat.not_lt_zero _)
  | 0, z + 1, f, g, H, S, T, h5, h6, h7, h8 => by
    rw [g_X5_play_70]
    unfold g_X5_play_70b
    rw [if_pos (by decide)]
    have := x_102 (la := la) (lb := lb) (wa := wa) (wb := wb) (fee := fee) SK hn hd H S T (fun m hm => h8 m (by omega) hm) n zF 0 0 (-1) rfl (by show _ < 65536; omega) (by omega) (by omega)
    exact ⟨H, S, T, this, (h7 0 (by omega)).1, (h7 0 (by omega)).2⟩
  | j + 1, z + 1, f, g, H, S, T, h5, h6, h7, h8 => by
    rw [g_X5_play_70]
    unfold g_X5_play_70b
    rw [n_pred (show 0 < j + 1 by omega), Nat.add_sub_cancel, if_neg (nI_pos (show j < 2 ^ 31 by omega))]
    obtain ⟨T', H', S', q1, q2, q3, q4, q5⟩ := x_weigh (SK := SK) (d := d) j (by omega) hd T H S
    rw [q1, pb_some, n_neg]
    have pr : ∀ i, i ≤ d → (H i, S i) = qv la lb wa wb fee n d (n - j - 1) i := by
      intro i hi
      obtain ⟨a1, a2⟩ := h7 i hi
      rw [show n - (j + 1) = n - j - 1 by omega] at a1 a2
      rw [a1, a2]
    rw [h0, h1, h4] at q3 q4 q5
    refine x_70 SK h0 h1 h4 hn hd j z f g H' S' T' (by omega) (by omega) ?_ ?_
    · intro i hi
      by_cases c : i = d
      · subst c
        rw [q3 i hi, q4 i hi, if_neg (by omega), if_neg (by omega)]
        have := pr i hi
        rw [qv_d] at this ⊢
        exact ⟨congrArg Prod.fst this, congrArg Prod.snd this⟩
      · rw [q3 i hi, q4 i hi, if_pos (by omega), if_pos (by omega), pr i hi, pr (i + 1) (by omega), qv_s j i (by omega) c]
        exact ⟨rfl, rfl⟩
    · intro m hm1 hm2 g hg
      by_cases c : m = j
      · subst c
        rw [q5 g hg, pr g (by omega), pr (g + 1) (by omega)]
        rfl
      · rw [q2 m c]
        exact h8 m (by omega) hm2 g hg
theorem x_play (SK : Nat → Int32) (h0 : SK 0 = la) (h1 : SK 1 = lb) (h2 : SK 2 = wa) (h3 : SK 3 = wb) (h4 : SK 4 = fee) (hn : n ≤ 40) (hd1 : 1 ≤ d) (hd : d ≤ 20) (f g : Int32) (H S T : Nat → Int32) :
    ∃ H' S' T', g_X5_play SK (nI n) (nI d) f g H S T = some ((qF la lb wa wb fee n d n 0 (-1) 0).1, nI (qF la lb wa wb fee n d n 0 (-1) 0).2, H', S', T') ∧ H' 0 = (qv la lb wa wb fee n d n 0).1 ∧ S' 0 = (qv la lb wa wb fee n d n 0).2 := by
  unfold g_X5_play
  have i1 : g_X10_isIn (nI n) 0 40 = some 1 := (p_isInN n 0 40 (by omega) (by omega) (by omega)).trans (by rw [if_pos (by omega)])
  have i2 : g_X10_isIn (nI d) 1 20 = some 1 := (p_isInN d 1 20 (by omega) (by omega) (by omega)).trans (by rw [if_pos (by omega)])
  rw [if_neg (by decide), i1, pb_some, if_neg (by decide), i2, pb_some, if_neg (by decide), x_fill 21 (by omega), pb_some, x_fill 21 (by omega), pb_some]
  simp (disch := omega) only [n_z1, n_z2, n_z3, n_z4, n_z5, n_z6, n_z7, n_z8, n_leL, n_leR, n_ltL, n_ltR, n_eqL, n_eqR, n_m1R, n_addL, n_addR, n_mulL, n_mulR, n_subR, n_subL, n_add, n_mul, n_neg, n_sub, n_le, n_lt, n_eq, nI_clamp, if_true, if_false, if_pos, if_neg, or_false, false_or, not_false_eq_true, not_true_eq_false]
  refine x_70 SK h0 h1 h4 hn hd n zF f g _ _ T (by show _ < 65536; omega) (Nat.le_refl n) ?_ (fun m h1 h2 => by omega)
  intro i hi
  rw [upd_eq, upd_eq, h2, h3, Nat.sub_self, qv]
  by_cases c : i = d
  · rw [if_pos c, if_pos c, if_pos c]
    exact ⟨rfl, rfl⟩
  · rw [if_neg c, if_neg c, if_neg c, if_pos (by omega), if_pos (by omega)]
    exact ⟨rfl, rfl⟩
end
