/-! THE RULE: the class's parser walks the grammar -/
def Stk (f : Nat → Int32) : List Int32 → Prop
  | [] => True
  | e :: E => f E.length = e ∧ Stk f E
theorem stk_upd {f : Nat → Int32} {E : List Int32} (k : Nat) (x : Int32) (hk : E.length ≤ k) (h : Stk f E) : Stk (upd f k x) E := by
  induction E with
  | nil => exact trivial
  | cons e E ih =>
    rw [List.length_cons] at hk
    exact ⟨by rw [upd_eq, if_neg (by omega)]; exact h.1, ih (by omega) h.2⟩
theorem stk_push {f : Nat → Int32} {E : List Int32} (x : Int32) (h : Stk f E) : Stk (upd f E.length x) (x :: E) := ⟨by rw [upd_eq, if_pos rfl], stk_upd _ _ (Nat.le_refl _) h⟩
theorem x_emit {f : Nat → Int32} {E : List Int32} (x : Int32) (hE : E.length < 40) : g_X8_emit (-1) x (nI E.length) f = some (nI (E.length + 1), upd f E.length x) := by
  unfold g_X8_emit
  rw [if_pos rfl]
  simp (disch := omega) only [n_z1, n_z2, n_z3, n_z4, n_z5, n_z6, n_z7, n_z8, n_leL, n_leR, n_ltL, n_ltR, n_eqL, n_eqR, n_m1R, n_addL, n_addR, n_mulL, n_mulR, n_subR, n_subL, n_add, n_mul, n_neg, n_sub, n_le, n_lt, n_eq, nI_clamp, if_true, if_false, if_pos, if_neg, or_false, false_or, not_false_eq_true, not_true_eq_false]
theorem x_emitd {φ : Int32} (hφ : φ ≠ -1) (x s : Int32) (f : Nat → Int32) : g_X8_emit φ x s f = some (s, f) := by
  unfold g_X8_emit
  rw [if_neg hφ]
theorem x_stopd {φ : Int32} (hφ : φ ≠ -1) (x y : Int32) : g_X8_stop x y φ = some φ := by
  unfold g_X8_stop
  rw [if_neg hφ]
theorem x_stop (x y : Int32) : g_X8_stop x y (-1) = some (10 * x + y) := rfl
abbrev xS := Int32 × Int32 × Int32 × (Nat → Int32)
abbrev xR := Nat → Int32 → Int32 → Int32 → Int32 → Int32 → (Nat → Int32) → Option xS
section
variable {f c : Nat → Int32} {L : Nat}
theorem x_rec0 (D : Nat) (a b s p φ : Int32) (row : Nat → Int32) : g_X8_rec 40 1 (nI L) f (D + 1) 0 a b s p φ row = g_X8_parseLevel 40 1 (nI L) f a b (g_X8_rec 40 1 (nI L) f D) s p φ row := by
  rw [g_X8_rec]
  exact if_pos rfl
theorem x_rec1 (D : Nat) (a b s p φ : Int32) (row : Nat → Int32) : g_X8_rec 40 1 (nI L) f (D + 1) 1 a b s p φ row = g_X8_parseUnit 40 1 (nI L) f a (g_X8_rec 40 1 (nI L) f D) s p φ row := by
  rw [g_X8_rec]
  exact (if_neg (by decide)).trans (if_pos rfl)
theorem x_rec2 (D : Nat) (a b s p φ : Int32) (row : Nat → Int32) : g_X8_rec 40 1 (nI L) f (D + 1) 2 a b s p φ row = g_X8_parseOperand 40 1 (nI L) f a (g_X8_rec 40 1 (nI L) f D) s p φ row := by
  rw [g_X8_rec]
  exact (if_neg (by decide)).trans (if_neg (by decide))
theorem x_unit5 (hf : ∀ j, j < L → f j = c j) (hT : TXT c L) (x1 x2 : Int32) (rec : xR) (sz φ : Int32) (row : Nat → Int32) : ∀ (k n q : Nat), L - q ≤ k → k < n → q < 900 →
    ∃ qb, q ≤ qb ∧ (q ≤ L → qb ≤ L) ∧ (L ≤ q → qb = q) ∧ sk c L qb = qb ∧ ¬ isPf (ah c L qb) ∧ (∀ j, q ≤ j → j < qb → c j = 32 ∨ isPf (c j)) ∧
      g_X8_parseUnit_5 40 1 (nI L) f x1 rec n x2 sz (nI q) φ row = g_X8_parseUnit_45 40 1 (nI L) f x1 rec x2 sz (nI qb) φ row
  | _, 0, _, _, h, _ => absurd h (Nat.not_lt_zero _)
  | k, n + 1, q, h1, h2, h3 => by
    have hL := hT.1
    rw [g_X8_parseUnit_5]
    unfold g_X8_parseUnit_5b
    show ∃ qb, _ ∧ _ ∧ _ ∧ _ ∧ _ ∧ _ ∧ (some (nI L)).bind _ = _
    simp only [pb_some]
    by_cases e : L ≤ q
    · refine ⟨q, Nat.le_refl q, id, fun _ => rfl, sk_end e, ?_, fun j a b => by omega, ?_⟩
      · rw [ah_gt (by rw [sk_end e]; omega)]; decide
      · simp (disch := omega) only [n_z1, n_z2, n_z3, n_z4, n_z5, n_z6, n_z7, n_z8, n_leL, n_leR, n_ltL, n_ltR, n_eqL, n_eqR, n_m1R, n_addL, n_addR, n_mulL, n_mulR, n_subR, n_subL, n_add, n_mul, n_neg, n_sub, n_le, n_lt, n_eq, nI_clamp, if_true, if_false, if_pos, if_neg, or_false, false_or, not_false_eq_true, not_true_eq_false]
    · simp (disch := omega) only [n_z1, n_z2, n_z3, n_z4, n_z5, n_z6, n_z7, n_z8, n_leL, n_leR, n_ltL, n_ltR, n_eqL, n_eqR, n_m1R, n_addL, n_addR, n_mulL, n_mulR, n_subR, n_subL, n_add, n_mul, n_neg, n_sub, n_le, n_lt, n_eq, nI_clamp, if_true, if_false, if_pos, if_neg, or_false, false_or, not_false_eq_true, not_true_eq_false, x_ahead hf hL (show q < 1000 by omega), pb_some, x_isPrefix]
      have g1 := sk_ge c L _ q (Nat.le_refl _)
      have g2 := sk_le c L _ q (Nat.le_refl _) (by omega)
      have gb : ∀ j, q ≤ j → j < sk c L q → c j = 32 := by
        intro j hj1 hj2
        clear h1 h2
        induction hk : j - q generalizing q with
        | zero =>
          have : j = q := by omega
          subst this
          rw [sk] at hj2
          by_cases e9 : j < L ∧ c j = 32
          · exact e9.2
          · rw [dif_neg e9] at hj2; omega
        | succ k ih =>
          by_cases e9 : q < L ∧ c q = 32
          · have e8 := sk_blank e9.1 e9.2
            rw [e8] at hj2
            have e7 := sk_ge c L _ (q + 1) (Nat.le_refl _)
            have e6 := sk_le c L _ (q + 1) (Nat.le_refl _) (by omega)
            exact ih (q + 1) (by omega) (by omega) e7 e6 (by omega) hj2 (by omega)
          · rw [sk, dif_neg e9] at hj2; omega
      by_cases e2 : isPf (ah c L q)
      · rw [if_pos e2]
        have e3 := ah_ne hT (pf_ne e2).1
        obtain ⟨qb, b1, b2, b3, b4, b5, b6, b7⟩ := x_unit5 hf hT x1 x2 rec sz φ row (k - 1) n (sk c L q + 1) (by omega) (by omega) (by omega)
        refine ⟨qb, by omega, by omega, by omega, b4, b5, ?_, ?_⟩
        · intro j hj1 hj2
          by_cases e4 : j < sk c L q
          · exact Or.inl (gb j hj1 e4)
          · by_cases e5 : j = sk c L q
            · exact Or.inr (by rw [e5, ← e3.2]; exact e2)
            · exact b6 j (by omega) hj2
        · rw [if_neg (by decide)]; exact b7
      · rw [if_neg e2]
        refine ⟨sk c L q, g1, fun _ => g2, fun _ => by omega, sk_sk c L q, by rw [ah_sk]; exact e2, fun j hj1 hj2 => Or.inl (gb j hj1 hj2), ?_⟩
        rw [if_pos rfl]
theorem n_pred {j : Nat} (h : 0 < j) : nI j - 1 = nI (j - 1) := by
  simp (disch := omega) only [n_z1, n_z2, n_z3, n_z4, n_z5, n_z6, n_z7, n_z8, n_leL, n_leR, n_ltL, n_ltR, n_eqL, n_eqR, n_m1R, n_addL, n_addR, n_mulL, n_mulR, n_subR, n_subL, n_add, n_mul, n_neg, n_sub, n_le, n_lt, n_eq, nI_clamp, if_true, if_false, if_pos, if_neg, or_false, false_or, not_false_eq_true, not_true_eq_false]
theorem n_predlt {j q : Nat} (hj : j < 1000) (hq : q < 1000) : (nI j - 1 < nI q) = (j ≤ q) := by
  show (nI j - nI 1 < nI q) = _
  rw [Int32.lt_iff_toInt_lt, pk_sub_toInt (by omega) (by omega), nI_toInt (by omega)]
  simp; omega
theorem n_predm {j : Nat} (h : 0 < j) : nI j - 1 + -1 = nI (j - 1) - 1 := by
  rw [n_pred h, n_neg]
theorem x_unit60d (hf : ∀ j, j < L → f j = c j) (hL : L ≤ 40) (x1 : Int32) (rec : xR) (q : Nat) (sz p φ : Int32) (hφ : φ ≠ -1) (row : Nat → Int32) : ∀ (k n j : Nat), j - q ≤ k → k < n → j < 900 → q < 900 →
    g_X8_parseUnit_60 40 1 (nI L) f x1 rec n (nI q) (nI j - 1) sz p φ row = some (sz, p, φ, row)
  | _, 0, _, _, h, _, _ => absurd h (Nat.not_lt_zero _)
  | k, n + 1, j, h1, h2, h3, h4 => by
    rw [g_X8_parseUnit_60]
    unfold g_X8_parseUnit_60b
    simp only [n_predlt (show j < 1000 by omega) (show q < 1000 by omega)]
    by_cases e : j ≤ q
    · rw [if_pos e]
    · rw [if_neg e, n_pred (by omega)]
      have ih := x_unit60d hf hL x1 rec q sz p φ hφ row (k - 1) n (j - 1) (by omega) (by omega) (by omega) h4
      have hk : g_X8_parseUnit_107 40 1 (nI L) f x1 rec (g_X8_parseUnit_60 40 1 (nI L) f x1 rec n) (nI q) (nI (j - 1)) sz p φ row = some (sz, p, φ, row) := by
        unfold g_X8_parseUnit_107
        rw [n_neg]; exact ih
      have ha : ∃ v, g_X7_at 40 1 (nI L) f (nI (j - 1)) 0 = some v := by
        by_cases e2 : j - 1 < L
        · exact ⟨_, x_at hf hL e2⟩
        · exact ⟨_, x_at_end hL (by omega) (by omega)⟩
      obtain ⟨v, hv⟩ := ha
      have h4 : ∀ x, g_X8_parseUnit_104 40 1 (nI L) f x1 rec (g_X8_parseUnit_60 40 1 (nI L) f x1 rec n) (nI q) (nI (j - 1)) x sz p φ row = some (sz, p, φ, row) := by
        intro x
        unfold g_X8_parseUnit_104
        rw [x_emitd hφ, pb_some]; exact hk
      rw [hv, pb_some, x_isPrefix, pb_some, hk, h4, h4]
      simp
theorem x_unit60 (hf : ∀ j, j < L → f j = c j) (hL : L ≤ 40) (x1 : Int32) (rec : xR) (q : Nat) (p : Int32) : ∀ (k n j : Nat) (E : List Int32) (row : Nat → Int32), j - q = k → k < n → j ≤ L → E.length + (j - q) ≤ 40 → Stk row E → q < 900 →
    ∃ E' row', g_X8_parseUnit_60 40 1 (nI L) f x1 rec n (nI q) (nI j - 1) (nI E.length) p (-1) row = some (nI (E' ++ E).length, p, -1, row') ∧ Stk row' (E' ++ E) ∧ E' = ((List.range' q (j - q)).filter (fun j => decide (isPf (c j)))).map (fun j => sg (c j))
  | _, 0, _, _, _, _, h, _, _, _, _ => absurd h (Nat.not_lt_zero _)
  | k, n + 1, j, E, row, h1, h2, h3, h4, h5, h6 => by
    rw [g_X8_parseUnit_60]
    unfold g_X8_parseUnit_60b
    simp only [n_predlt (show j < 1000 by omega) (show q < 1000 by omega)]
    by_cases e : j ≤ q
    · rw [if_pos e]
      exact ⟨[], row, rfl, h5, by rw [show j - q = 0 by omega]; rfl⟩
    · rw [if_neg e, n_pred (by omega), x_at hf hL (show j - 1 < L by omega), pb_some, x_isPrefix, pb_some]
      have hr : List.range' q (j - q) = List.range' q (j - 1 - q) ++ [j - 1] := by
        rw [show j - q = (j - 1 - q) + 1 by omega, List.range'_concat]
        congr 2
        omega
      rw [hr, List.filter_append, List.map_append]
      by_cases e2 : isPf (c (j - 1))
      · obtain ⟨E', row', b1, b2, b3⟩ := x_unit60 hf hL x1 rec q p (k - 1) n (j - 1) (sg (c (j - 1)) :: E) (upd row E.length (sg (c (j - 1)))) (by omega) (by omega) (by omega) (by rw [List.length_cons]; omega) (stk_push _ h5) h6
        have hk : ∀ x, x = sg (c (j - 1)) → g_X8_parseUnit_104 40 1 (nI L) f x1 rec (g_X8_parseUnit_60 40 1 (nI L) f x1 rec n) (nI q) (nI (j - 1)) x (nI E.length) p (-1) row = some (nI (E' ++ sg (c (j - 1)) :: E).length, p, -1, row') := by
          rintro x rfl
          unfold g_X8_parseUnit_104 g_X8_parseUnit_107
          rw [x_emit _ (by omega), pb_some, n_neg]
          exact b1
        refine ⟨E' ++ [sg (c (j - 1))], row', ?_, by rw [List.append_assoc]; exact b2, by rw [b3, List.filter_cons_of_pos (by simp [e2])]; rfl⟩
        rw [if_pos e2, if_neg (by decide)]
        rw [List.append_assoc]
        by_cases e3 : c (j - 1) = 33
        · rw [if_pos e3]; exact hk _ (by rw [e3]; rfl)
        · rw [if_neg e3]; exact hk _ (by unfold sg; rw [if_neg e3])
      · obtain ⟨E', row', b1, b2, b3⟩ := x_unit60 hf hL x1 rec q p (k - 1) n (j - 1) E row (by omega) (by omega) (by omega) (by omega) h5 h6
        refine ⟨E', row', ?_, b2, by rw [b3, List.filter_cons_of_neg (by simp [e2])]; simp⟩
        rw [if_neg e2, if_pos rfl]
        unfold g_X8_parseUnit_107
        rw [n_neg]; exact b1
end
