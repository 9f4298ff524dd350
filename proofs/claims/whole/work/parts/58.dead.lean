/-! THE RULE: the class's parser behind a fault, and before one -/
section
variable {f c : Nat → Int32} {L : Nat}
theorem dg_n {x : Int32} (h : isDg x) (v : Nat) : nI (10 * v) + x - 48 = nI (10 * v + (x.toInt - 48).toNat) := by
  obtain ⟨k, hk⟩ : ∃ k : Nat, x.toInt = (k : Int) := ⟨x.toInt.toNat, by unfold isDg at h; omega⟩
  have hx := n_of hk
  have h2 : 48 ≤ k := by unfold isDg at h; omega
  rw [hk, hx]
  simp (disch := omega) only [n_z1, n_z2, n_z3, n_z4, n_z5, n_z6, n_z7, n_z8, n_leL, n_leR, n_ltL, n_ltR, n_eqL, n_eqR, n_m1R, n_addL, n_addR, n_mulL, n_mulR, n_subR, n_subL, n_add, n_mul, n_neg, n_sub, n_le, n_lt, n_eq, nI_clamp, if_true, if_false, if_pos, if_neg, or_false, false_or, not_false_eq_true, not_true_eq_false]
  congr 1
  omega
theorem x_num7 (hf : ∀ j, j < L → f j = c j) (hT : TXT c L) (sz φ : Int32) (row : Nat → Int32) (p : Nat) : ∀ (k n q : Nat), L - q ≤ k → k < n → p ≤ q → q < 900 →
    g_X8_parseNumber_7 40 1 (nI L) f n (nI p) (nI (nv c p (min (q - p) 6))) sz (nI q) φ row = g_X8_parseNumber_93 40 1 (nI L) f (nI p) (nI (nv c p (min (dE c L q - p) 6))) sz (nI (dE c L q)) φ row
  | _, 0, _, _, h, _, _ => absurd h (Nat.not_lt_zero _)
  | k, n + 1, q, h1, h2, h3, h4 => by
    have hL := hT.1
    rw [g_X8_parseNumber_7]
    unfold g_X8_parseNumber_7b
    show (some (nI L)).bind _ = _
    rw [pb_some]
    by_cases e : L ≤ q
    · simp (disch := omega) only [n_z1, n_z2, n_z3, n_z4, n_z5, n_z6, n_z7, n_z8, n_leL, n_leR, n_ltL, n_ltR, n_eqL, n_eqR, n_m1R, n_addL, n_addR, n_mulL, n_mulR, n_subR, n_subL, n_add, n_mul, n_neg, n_sub, n_le, n_lt, n_eq, nI_clamp, if_true, if_false, if_pos, if_neg, or_false, false_or, not_false_eq_true, not_true_eq_false]
      rw [show dE c L q = q by rw [dE, dif_neg (by omega)]]
    · simp (disch := omega) only [n_z1, n_z2, n_z3, n_z4, n_z5, n_z6, n_z7, n_z8, n_leL, n_leR, n_ltL, n_ltR, n_eqL, n_eqR, n_m1R, n_addL, n_addR, n_mulL, n_mulR, n_subR, n_subL, n_add, n_mul, n_neg, n_sub, n_le, n_lt, n_eq, nI_clamp, if_true, if_false, if_pos, if_neg, or_false, false_or, not_false_eq_true, not_true_eq_false, x_at hf hL (show q < L by omega), pb_some, x_isDigit]
      by_cases e2 : isDg (c q)
      · have hd : dE c L q = dE c L (q + 1) := by rw [dE, dif_pos ⟨by omega, e2⟩]
        have ih := x_num7 hf hT sz φ row p (k - 1) n (q + 1) (by omega) (by omega) (by omega) (by omega)
        rw [if_pos e2, if_neg (by decide), hd, ← ih]
        unfold g_X8_parseNumber_80
        by_cases e3 : 6 ≤ q - p
        · rw [if_pos e3, show min (q + 1 - p) 6 = min (q - p) 6 by omega]
          simp (disch := omega) only [n_z1, n_z2, n_z3, n_z4, n_z5, n_z6, n_z7, n_z8, n_leL, n_leR, n_ltL, n_ltR, n_eqL, n_eqR, n_m1R, n_addL, n_addR, n_mulL, n_mulR, n_subR, n_subL, n_add, n_mul, n_neg, n_sub, n_le, n_lt, n_eq, nI_clamp, if_true, if_false, if_pos, if_neg, or_false, false_or, not_false_eq_true, not_true_eq_false]
        · rw [if_neg e3, show min (q + 1 - p) 6 = min (q - p) 6 + 1 by omega]
          rw [nv, show p + min (q - p) 6 = q by omega, dg_n e2]
          simp (disch := omega) only [n_z1, n_z2, n_z3, n_z4, n_z5, n_z6, n_z7, n_z8, n_leL, n_leR, n_ltL, n_ltR, n_eqL, n_eqR, n_m1R, n_addL, n_addR, n_mulL, n_mulR, n_subR, n_subL, n_add, n_mul, n_neg, n_sub, n_le, n_lt, n_eq, nI_clamp, if_true, if_false, if_pos, if_neg, or_false, false_or, not_false_eq_true, not_true_eq_false]
      · rw [if_neg e2, if_pos rfl, show dE c L q = q by rw [dE, dif_neg (fun h => e2 h.2)]]
theorem x_numd (hf : ∀ j, j < L → f j = c j) (hT : TXT c L) (sz φ : Int32) (hφ : φ ≠ -1) (row : Nat → Int32) (q : Nat) (hq : q ≤ L) : g_X8_parseNumber 40 1 (nI L) f sz (nI q) φ row = some (sz, nI (dE c L q), φ, row) := by
  have hL := hT.1
  have h := x_num7 hf hT sz φ row q 40 zF q (by omega) (by decide) (Nat.le_refl q) (by omega)
  rw [Nat.sub_self, Nat.zero_min] at h
  have e : g_X8_parseNumber 40 1 (nI L) f sz (nI q) φ row = g_X8_parseNumber_7 40 1 (nI L) f zF (nI q) (nI (nv c q 0)) sz (nI q) φ row := rfl
  rw [e, h]
  unfold g_X8_parseNumber_93 g_X8_parseNumber_110
  rw [x_stopd hφ, pb_some, x_emitd hφ, pb_some]
  split
  · rfl
  · rfl
theorem x_dead (hf : ∀ j, j < L → f j = c j) (hT : TXT c L) (φ : Int32) (hφ : φ ≠ -1) : ∀ D : Nat,
    (∀ r d p sz row, r ≤ 5 → d ≤ 8 → p < 800 → 8 * (8 - d) + (5 - r) + 3 ≤ D → ∃ p', g_X8_rec 40 1 (nI L) f D 0 (nI r) (nI d) sz (nI p) φ row = some (sz, nI p', φ, row) ∧ p' ≤ max p L + (8 - d)) ∧
    (∀ d p sz b row, d ≤ 8 → p < 800 → 8 * (8 - d) + 2 ≤ D → ∃ p', g_X8_rec 40 1 (nI L) f D 1 (nI d) b sz (nI p) φ row = some (sz, nI p', φ, row) ∧ p' ≤ max p L + (8 - d)) ∧
    (∀ d p sz b row, d ≤ 8 → p < 800 → 8 * (8 - d) + 1 ≤ D → ∃ p', g_X8_rec 40 1 (nI L) f D 2 (nI d) b sz (nI p) φ row = some (sz, nI p', φ, row) ∧ p' ≤ max p L + (8 - d))
  | 0 => ⟨fun r d p sz row _ _ _ h => by omega, fun d p sz b row _ _ h => by omega, fun d p sz b row _ _ h => by omega⟩
  | D + 1 => by
    have hL := hT.1
    obtain ⟨ih0, ih1, ih2⟩ := x_dead hf hT φ hφ D
    refine ⟨fun r d p sz row hr hd hp hD => ?_, fun d p sz b row hd hp hD => ?_, fun d p sz b row hd hp hD => ?_⟩
    · rw [x_rec0]
      unfold g_X8_parseLevel
      by_cases e : r ≤ 4
      · obtain ⟨p', h1, h2⟩ := ih0 (r + 1) d p sz row (by omega) hd hp (by omega)
        simp (disch := omega) only [n_z1, n_z2, n_z3, n_z4, n_z5, n_z6, n_z7, n_z8, n_leL, n_leR, n_ltL, n_ltR, n_eqL, n_eqR, n_m1R, n_addL, n_addR, n_mulL, n_mulR, n_subR, n_subL, n_add, n_mul, n_neg, n_sub, n_le, n_lt, n_eq, nI_clamp, if_true, if_false, if_pos, if_neg, or_false, false_or, not_false_eq_true, not_true_eq_false, h1, pb_some]
        refine ⟨p', ?_, h2⟩
        have hk : ∀ t, 0 < t → t < 100 → g_X8_parseLevel_30 40 1 (nI L) f (nI r) (nI d) (g_X8_rec 40 1 (nI L) f D) (nI t) sz (nI p') φ row = some (sz, nI p', φ, row) := by
          intro t ht ht2
          unfold g_X8_parseLevel_30
          show g_X8_parseLevel_34 40 1 (nI L) f (nI r) (nI d) (g_X8_rec 40 1 (nI L) f D) (65535 + 1) (nI t) 0 sz (nI p') φ row = _
          rw [g_X8_parseLevel_34]
          unfold g_X8_parseLevel_34b
          simp (disch := omega) only [n_z1, n_z2, n_z3, n_z4, n_z5, n_z6, n_z7, n_z8, n_leL, n_leR, n_ltL, n_ltR, n_eqL, n_eqR, n_m1R, n_addL, n_addR, n_mulL, n_mulR, n_subR, n_subL, n_add, n_mul, n_neg, n_sub, n_le, n_lt, n_eq, nI_clamp, if_true, if_false, if_pos, if_neg, or_false, false_or, not_false_eq_true, not_true_eq_false]
        have h3 := hk 1 (by omega) (by omega)
        have h4 := hk 40 (by omega) (by omega)
        by_cases e2 : r = 2
        · rw [if_pos e2]; exact h3
        · rw [if_neg e2]; exact h4
      · obtain ⟨p', h1, h2⟩ := ih1 d p sz 0 row hd hp (by omega)
        simp (disch := omega) only [n_z1, n_z2, n_z3, n_z4, n_z5, n_z6, n_z7, n_z8, n_leL, n_leR, n_ltL, n_ltR, n_eqL, n_eqR, n_m1R, n_addL, n_addR, n_mulL, n_mulR, n_subR, n_subL, n_add, n_mul, n_neg, n_sub, n_le, n_lt, n_eq, nI_clamp, if_true, if_false, if_pos, if_neg, or_false, false_or, not_false_eq_true, not_true_eq_false, h1, pb_some]
        exact ⟨p', rfl, h2⟩
    · rw [x_rec1]
      unfold g_X8_parseUnit
      obtain ⟨qb, b1, b2, b3, b4, b5, b6, b7⟩ := x_unit5 hf hT (nI d) (nI p) (g_X8_rec 40 1 (nI L) f D) sz φ row 40 zF p (by omega) (by decide) (by omega)
      obtain ⟨p', h1, h2⟩ := ih2 d qb sz 0 row hd (by omega) (by omega)
      refine ⟨p', ?_, by omega⟩
      rw [b7]
      unfold g_X8_parseUnit_45
      rw [h1, pb_some]
      exact x_unit60d hf hL (nI d) (g_X8_rec 40 1 (nI L) f D) p sz (nI p') φ hφ row 800 zF qb (by omega) (by decide) (by omega) (by omega)
    · rw [x_rec2]
      unfold g_X8_parseOperand
      rw [x_ahead hf hL (by omega), pb_some]
      simp only [x_isDigit, x_nameOf, pb_some]
      have g1 := sk_ge c L _ p (Nat.le_refl _)
      have g2 := sk_le c L _ p (Nat.le_refl _)
      have g3 : L ≤ p → sk c L p = p := fun h => sk_end h
      by_cases e1 : isDg (ah c L p)
      · have e2 := ah_ne hT (dg_kind e1).2.2.2.2.2.2
        rw [if_pos e1, if_neg (by decide), x_numd hf hT sz φ hφ row (sk c L p) (by omega)]
        have e3 := dE_le c L _ (sk c L p) (Nat.le_refl _) (by omega)
        exact ⟨_, rfl, by omega⟩
      · rw [if_neg e1, if_pos rfl]
        by_cases e2 : nmN (ah c L p) = 9
        · rw [if_pos e2, if_pos rfl]
          by_cases e3 : ah c L p = 40
          · have e4 := ah_ne hT (q := p) (fun e => by rw [e3] at e; revert e; decide)
            rw [if_pos e3]
            by_cases e5 : d < 8
            · obtain ⟨p', h1, h2⟩ := ih0 0 (d + 1) (sk c L p + 1) sz row (by omega) (by omega) (by omega) (by omega)
              have g5 := sk_le c L _ p' (Nat.le_refl _)
              have g6 : L ≤ p' → sk c L p' = p' := fun h => sk_end h
              refine ⟨sk c L p' + 1, ?_, by omega⟩
              rw [show nI 0 = 0 from rfl] at h1
              simp (disch := omega) only [n_z1, n_z2, n_z3, n_z4, n_z5, n_z6, n_z7, n_z8, n_leL, n_leR, n_ltL, n_ltR, n_eqL, n_eqR, n_m1R, n_addL, n_addR, n_mulL, n_mulR, n_subR, n_subL, n_add, n_mul, n_neg, n_sub, n_le, n_lt, n_eq, nI_clamp, if_true, if_false, if_pos, if_neg, or_false, false_or, not_false_eq_true, not_true_eq_false, h1, pb_some, x_ahead hf hL (show p' < 1000 by omega), x_stopd hφ]
              unfold g_X8_parseOperand_122
              rw [← n_add]
              split <;> rfl
            · refine ⟨sk c L p, ?_, by omega⟩
              simp (disch := omega) only [n_z1, n_z2, n_z3, n_z4, n_z5, n_z6, n_z7, n_z8, n_leL, n_leR, n_ltL, n_ltR, n_eqL, n_eqR, n_m1R, n_addL, n_addR, n_mulL, n_mulR, n_subR, n_subL, n_add, n_mul, n_neg, n_sub, n_le, n_lt, n_eq, nI_clamp, if_true, if_false, if_pos, if_neg, or_false, false_or, not_false_eq_true, not_true_eq_false, x_stopd hφ, pb_some]
          · rw [if_neg e3, x_stopd hφ, pb_some]
            exact ⟨_, rfl, by omega⟩
        · have e3 := ah_ne hT (nm_ne (x := ah c L p) (by have := nmN_le (ah c L p); omega)).1
          have e4 : (if nmN (ah c L p) = 9 then (-1 : Int32) else nI (nmN (ah c L p))) ≠ -1 := by
            rw [if_neg e2]
            intro h
            rw [n_m1R (by have := nmN_le (ah c L p); omega)] at h
            exact h
          rw [if_neg e4, x_emitd hφ, pb_some]
          refine ⟨sk c L p + 1, ?_, by omega⟩
          simp (disch := omega) only [n_z1, n_z2, n_z3, n_z4, n_z5, n_z6, n_z7, n_z8, n_leL, n_leR, n_ltL, n_ltR, n_eqL, n_eqR, n_m1R, n_addL, n_addR, n_mulL, n_mulR, n_subR, n_subL, n_add, n_mul, n_neg, n_sub, n_le, n_lt, n_eq, nI_clamp, if_true, if_false, if_pos, if_neg, or_false, false_or, not_false_eq_true, not_true_eq_false]
end
