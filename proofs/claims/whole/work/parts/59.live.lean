/-! THE RULE: the class's parser before a fault -/
theorem pf_le {c : Nat → Int32} {L t d q f : Nat} (hT : TXT c L) (h : PF c L t d q f) : q ≤ L → f ≤ 10 * L + 3 ∧ 0 < f := by
  induction h using PF.ind with
  | @longn d q h1 h2 => intro hq; have := sk_le c L _ q (Nat.le_refl _) hq; omega
  | @deep d q h1 h2 => intro hq; have := sk_le c L _ q (Nat.le_refl _) hq; omega
  | @parf d q f h1 h2 h3 ih =>
    intro hq
    have h5 := ah_ne hT (q := q) (fun e => by rw [h1] at e; revert e; decide)
    exact ih (by omega)
  | @parx d q q1 E h1 h2 h3 h4 =>
    intro hq
    have h5 := ah_ne hT (q := q) (fun e => by rw [h1] at e; revert e; decide)
    have h6 := (ps_len hT h3).2.2 (by omega)
    have := sk_le c L _ q1 (Nat.le_refl _) h6; omega
  | @stray d q h1 h2 h3 h4 => intro hq; have := sk_le c L _ q (Nat.le_refl _) hq; omega
  | @opdf d q f h1 h2 ih => intro hq; exact ih (sk_le c L _ q (Nat.le_refl _) hq)
  | @pref d q f h1 h2 ih => intro hq; have h3 := ah_ne hT (pf_ne h1).1; exact ih (by omega)
  | @levf r d q f h1 h2 ih => exact ih
  | @levt r d q q1 f E h1 h2 h3 ih => intro hq; exact ih ((ps_len hT h2).2.2 hq)
  | @tstepf r d q f h1 h2 h3 ih => intro hq; have h4 := ah_ne hT (rk_ne (x := ah c L q) (by omega)).1; exact ih (by omega)
  | @tstept r d q q1 f E h1 h2 h3 h4 h5 ih => intro hq; have h6 := ah_ne hT (rk_ne (x := ah c L q) (by omega)).1; exact ih ((ps_len hT h4).2.2 (by omega))
section
variable {f c : Nat → Int32} {L : Nat}
def XO (c : Nat → Int32) (L t d q : Nat) (E0 : List Int32) (o : Option xS) : Prop :=
  (∃ E q' row', PS c L t d q E q' ∧ Stk row' (E ++ E0) ∧ o = some (nI (E ++ E0).length, nI q', -1, row')) ∨
  (∃ fl p' sz row', PF c L t d q fl ∧ p' ≤ L + (9 - d) ∧ o = some (sz, nI p', nI fl, row'))
theorem nf_ne {fl : Nat} (h : fl < 1000) : nI fl ≠ -1 := by
  intro e
  rw [n_m1R (by omega)] at e
  exact e
theorem x_tail (hf : ∀ j, j < L → f j = c j) (hT : TXT c L) (r d : Nat) (hr : r ≤ 4) (hr2 : r ≠ 2) (rec : xR)
    (hrec : ∀ q E0 row, q ≤ L → E0.length ≤ q → Stk row E0 → XO c L (r + 1) d q E0 (rec 0 (nI (r + 1)) (nI d) (nI E0.length) (nI q) (-1) row)) :
    ∀ (k n i q : Nat) (E0 : List Int32) (row : Nat → Int32), L - q ≤ k → k + 1 < n → i ≤ q → q ≤ L → E0.length ≤ q → Stk row E0 → XO c L (10 + r) d q E0 (g_X8_parseLevel_34 40 1 (nI L) f (nI r) (nI d) rec n 40 (nI i) (nI E0.length) (nI q) (-1) row)
  | _, 0, _, _, _, _, _, h, _, _, _, _ => absurd h (Nat.not_lt_zero _)
  | k, n + 1, i, q, E0, row, h1, h2, h3, h4, h5, h6 => by
    have hL := hT.1
    rw [g_X8_parseLevel_34]
    unfold g_X8_parseLevel_34b
    by_cases e : 40 ≤ i
    · have eq : sk c L q = q := sk_end (by omega)
      refine Or.inl ⟨[], sk c L q, row, PS.tend hr ?_, h6, ?_⟩
      · rw [ah_gt (by omega)]
        have : rkN (-1) = 9 := by decide
        omega
      · simp (disch := omega) only [n_z1, n_z2, n_z3, n_z4, n_z5, n_z6, n_z7, n_z8, n_leL, n_leR, n_ltL, n_ltR, n_eqL, n_eqR, n_m1R, n_addL, n_addR, n_mulL, n_mulR, n_subR, n_subL, n_add, n_mul, n_neg, n_sub, n_le, n_lt, n_eq, nI_clamp, if_true, if_false, if_pos, if_neg, or_false, false_or, not_false_eq_true, not_true_eq_false, eq]
        rfl
    · simp (disch := omega) only [n_z1, n_z2, n_z3, n_z4, n_z5, n_z6, n_z7, n_z8, n_leL, n_leR, n_ltL, n_ltR, n_eqL, n_eqR, n_m1R, n_addL, n_addR, n_mulL, n_mulR, n_subR, n_subL, n_add, n_mul, n_neg, n_sub, n_le, n_lt, n_eq, nI_clamp, if_true, if_false, if_pos, if_neg, or_false, false_or, not_false_eq_true, not_true_eq_false, x_ahead hf hL (show q < 1000 by omega), pb_some, x_rankOf]
      by_cases e1 : rkN (ah c L q) = r
      · have e2 := ah_ne hT (rk_ne (x := ah c L q) (by omega)).1
        have e3 := sk_ge c L _ q (Nat.le_refl _)
        rw [if_pos (show (if rkN (ah c L q) = 9 then (-1 : Int32) else nI (rkN (ah c L q))) = nI r by rw [if_neg (by omega), e1])]
        simp (disch := omega) only [n_z1, n_z2, n_z3, n_z4, n_z5, n_z6, n_z7, n_z8, n_leL, n_leR, n_ltL, n_ltR, n_eqL, n_eqR, n_m1R, n_addL, n_addR, n_mulL, n_mulR, n_subR, n_subL, n_add, n_mul, n_neg, n_sub, n_le, n_lt, n_eq, nI_clamp, if_true, if_false, if_pos, if_neg, or_false, false_or, not_false_eq_true, not_true_eq_false, x_ahead hf hL (show sk c L q < 1000 by omega), pb_some, sk_sk, ah_sk]
        rcases hrec (sk c L q + 1) E0 row (by omega) (by omega) h6 with ⟨E1, q1, row1, g1, g2, g3⟩ | ⟨fl, p', sz, row1, g1, g2, g3⟩
        · have g4 := ps_len hT g1
          have g5 := g4.2.2 (by omega)
          rw [g3, pb_some]
          have g6 : (E1 ++ E0).length < 40 := by rw [List.length_append]; omega
          simp only [x_emit _ g6, pb_some, n_addR]
          rcases x_tail hf hT r d hr hr2 rec hrec (k - 1) n (i + 1) q1 (-(ah c L q) :: (E1 ++ E0)) (upd row1 (E1 ++ E0).length (-(ah c L q))) (by omega) (by omega) (by omega) g5 (by rw [List.length_cons, List.length_append]; omega) (stk_push _ g2) with ⟨E2, q2, row2, k1, k2, k3⟩ | ⟨fl, p', sz, row2, k1, k2, k3⟩
          · refine Or.inl ⟨E2 ++ (-(ah c L q) :: E1), q2, row2, PS.tstep hr hr2 e1 g1 k1, ?_, ?_⟩
            · rw [List.append_assoc]; exact k2
            · rw [List.append_assoc]; exact k3
          · exact Or.inr ⟨fl, p', sz, row2, PF.tstept hr hr2 e1 g1 k1, k2, k3⟩
        · have g4 := pf_le hT g1 (by omega)
          rw [g3, pb_some]
          simp only [x_emitd (nf_ne (fl := fl) (by omega)), pb_some, n_addR]
          refine Or.inr ⟨fl, p', sz, row1, PF.tstepf hr e1 g1, g2, ?_⟩
          obtain ⟨m, rfl⟩ : ∃ m, n = m + 1 := ⟨n - 1, by omega⟩
          rw [g_X8_parseLevel_34]
          unfold g_X8_parseLevel_34b
          rw [if_neg (nf_ne (fl := fl) (by omega))]
          split <;> rfl
      · rw [if_neg]
        · exact Or.inl ⟨[], sk c L q, row, PS.tend hr e1, h6, rfl⟩
        · intro h
          have h9 := rkN_le (ah c L q)
          by_cases e9 : rkN (ah c L q) = 9
          · rw [if_pos e9] at h
            exact absurd h.symm (nf_ne (by omega))
          · rw [if_neg e9, n_eq (by omega) (by omega)] at h
            exact e1 h
theorem x_tail2 (hf : ∀ j, j < L → f j = c j) (hT : TXT c L) (d : Nat) (rec : xR)
    (hrec : ∀ q E0 row, q ≤ L → E0.length ≤ q → Stk row E0 → XO c L 3 d q E0 (rec 0 (nI 3) (nI d) (nI E0.length) (nI q) (-1) row))
    (n q : Nat) (E0 : List Int32) (row : Nat → Int32) (h4 : q ≤ L) (h5 : E0.length ≤ q) (h6 : Stk row E0) : XO c L 12 d q E0 (g_X8_parseLevel_34 40 1 (nI L) f (nI 2) (nI d) rec (n + 2) 1 0 (nI E0.length) (nI q) (-1) row) := by
  have hL := hT.1
  rw [g_X8_parseLevel_34]
  unfold g_X8_parseLevel_34b
  rw [if_neg (by decide), if_pos rfl, x_ahead hf hL (show q < 1000 by omega)]
  simp only [pb_some, x_rankOf]
  by_cases e1 : rkN (ah c L q) = 2
  · have e2 := ah_ne hT (rk_ne (x := ah c L q) (by omega)).1
    have e3 := sk_ge c L _ q (Nat.le_refl _)
    rw [if_pos (show (if rkN (ah c L q) = 9 then (-1 : Int32) else nI (rkN (ah c L q))) = nI 2 by rw [if_neg (by omega), e1])]
    simp (disch := omega) only [n_z1, n_z2, n_z3, n_z4, n_z5, n_z6, n_z7, n_z8, n_leL, n_leR, n_ltL, n_ltR, n_eqL, n_eqR, n_m1R, n_addL, n_addR, n_mulL, n_mulR, n_subR, n_subL, n_add, n_mul, n_neg, n_sub, n_le, n_lt, n_eq, nI_clamp, if_true, if_false, if_pos, if_neg, or_false, false_or, not_false_eq_true, not_true_eq_false, x_ahead hf hL (show sk c L q < 1000 by omega), pb_some, sk_sk, ah_sk]
    have hx : ∀ a b φ rw', g_X8_parseLevel_34 40 1 (nI L) f (nI 2) (nI d) rec (n + 1) 1 (0 + 1) a b φ rw' = some (a, b, φ, rw') := by
      intro a b φ rw'
      rw [g_X8_parseLevel_34]
      unfold g_X8_parseLevel_34b
      rw [if_pos (by decide)]
    rcases hrec (sk c L q + 1) E0 row (by omega) (by omega) h6 with ⟨E1, q1, row1, g1, g2, g3⟩ | ⟨fl, p', sz, row1, g1, g2, g3⟩
    · have g4 := ps_len hT g1
      have g5 := g4.2.2 (by omega)
      rw [g3, pb_some]
      have g6 : (E1 ++ E0).length < 40 := by rw [List.length_append]; omega
      simp only [x_emit _ g6, pb_some, hx]
      exact Or.inl ⟨-(ah c L q) :: E1, q1, _, PS.tcmp e1 g1, stk_push _ g2, rfl⟩
    · have g4 := pf_le hT g1 (by omega)
      rw [g3, pb_some]
      simp only [x_emitd (nf_ne (fl := fl) (by omega)), pb_some, hx]
      exact Or.inr ⟨fl, p', sz, row1, PF.tstepf (r := 2) (by omega) e1 g1, g2, rfl⟩
  · rw [if_neg]
    · exact Or.inl ⟨[], sk c L q, row, PS.tend (r := 2) (by omega) e1, h6, rfl⟩
    · intro h
      have h9 := rkN_le (ah c L q)
      by_cases e9 : rkN (ah c L q) = 9
      · rw [if_pos e9] at h
        exact absurd h.symm (nf_ne (by omega))
      · rw [if_neg e9, n_eq (by omega) (by omega)] at h
        exact e1 h
theorem x_live (hf : ∀ j, j < L → f j = c j) (hT : TXT c L) : ∀ D : Nat,
    (∀ r d q E0 row, r ≤ 5 → d ≤ 8 → q ≤ L → E0.length ≤ q → Stk row E0 → 8 * (8 - d) + (5 - r) + 3 ≤ D → XO c L r d q E0 (g_X8_rec 40 1 (nI L) f D 0 (nI r) (nI d) (nI E0.length) (nI q) (-1) row)) ∧
    (∀ d q E0 b row, d ≤ 8 → q ≤ L → E0.length ≤ q → Stk row E0 → 8 * (8 - d) + 2 ≤ D → XO c L 5 d q E0 (g_X8_rec 40 1 (nI L) f D 1 (nI d) b (nI E0.length) (nI q) (-1) row)) ∧
    (∀ d q E0 b row, d ≤ 8 → q ≤ L → E0.length ≤ q → Stk row E0 → ¬ isPf (ah c L q) → 8 * (8 - d) + 1 ≤ D → XO c L 6 d q E0 (g_X8_rec 40 1 (nI L) f D 2 (nI d) b (nI E0.length) (nI q) (-1) row))
  | 0 => ⟨fun r d q E0 row _ _ _ _ _ h => by omega, fun d q E0 b row _ _ _ _ h => by omega, fun d q E0 b row _ _ _ _ _ h => by omega⟩
  | D + 1 => by
    have hL := hT.1
    obtain ⟨ih0, ih1, ih2⟩ := x_live hf hT D
    refine ⟨fun r d q E0 row hr hd hq hE hS hD => ?_, fun d q E0 b row hd hq hE hS hD => ?_, fun d q E0 b row hd hq hE hS hp hD => ?_⟩
    · rw [x_rec0]
      unfold g_X8_parseLevel
      by_cases e : r ≤ 4
      · simp (disch := omega) only [n_z1, n_z2, n_z3, n_z4, n_z5, n_z6, n_z7, n_z8, n_leL, n_leR, n_ltL, n_ltR, n_eqL, n_eqR, n_m1R, n_addL, n_addR, n_mulL, n_mulR, n_subR, n_subL, n_add, n_mul, n_neg, n_sub, n_le, n_lt, n_eq, nI_clamp, if_true, if_false, if_pos, if_neg, or_false, false_or, not_false_eq_true, not_true_eq_false]
        rcases ih0 (r + 1) d q E0 row (by omega) hd hq hE hS (by omega) with ⟨E1, q1, row1, g1, g2, g3⟩ | ⟨fl, p', sz, row1, g1, g2, g3⟩
        · have g4 := ps_len hT g1
          have g5 := g4.2.2 hq
          rw [g3, pb_some]
          dsimp only
          unfold g_X8_parseLevel_30
          by_cases e2 : r = 2
          · subst e2
            rw [if_pos rfl]
            rcases x_tail2 hf hT d (g_X8_rec 40 1 (nI L) f D) (fun q E0 row h1 h2 h3 => ih0 3 d q E0 row (by omega) hd h1 h2 h3 (by omega)) 65534 q1 (E1 ++ E0) row1 g5 (by rw [List.length_append]; omega) g2 with ⟨E2, q2, row2, k1, k2, k3⟩ | ⟨fl, p', sz, row2, k1, k2, k3⟩
            · exact Or.inl ⟨E2 ++ E1, q2, row2, PS.lev e g1 k1, by rw [List.append_assoc]; exact k2, by rw [List.append_assoc]; exact k3⟩
            · exact Or.inr ⟨fl, p', sz, row2, PF.levt e g1 k1, k2, k3⟩
          · rw [if_neg e2]
            rcases x_tail hf hT r d e e2 (g_X8_rec 40 1 (nI L) f D) (fun q E0 row h1 h2 h3 => ih0 (r + 1) d q E0 row (by omega) hd h1 h2 h3 (by omega)) 40 zF 0 q1 (E1 ++ E0) row1 (by omega) (by decide) (by omega) g5 (by rw [List.length_append]; omega) g2 with ⟨E2, q2, row2, k1, k2, k3⟩ | ⟨fl, p', sz, row2, k1, k2, k3⟩
            · exact Or.inl ⟨E2 ++ E1, q2, row2, PS.lev e g1 k1, by rw [List.append_assoc]; exact k2, by rw [List.append_assoc]; exact k3⟩
            · exact Or.inr ⟨fl, p', sz, row2, PF.levt e g1 k1, k2, k3⟩
        · have g4 := pf_le hT g1 hq
          rw [g3, pb_some]
          dsimp only
          have hk : ∀ t : Nat, 0 < t → t < 100 → g_X8_parseLevel_30 40 1 (nI L) f (nI r) (nI d) (g_X8_rec 40 1 (nI L) f D) (nI t) sz (nI p') (nI fl) row1 = some (sz, nI p', nI fl, row1) := by
            intro t ht ht2
            unfold g_X8_parseLevel_30
            show g_X8_parseLevel_34 40 1 (nI L) f (nI r) (nI d) (g_X8_rec 40 1 (nI L) f D) (65535 + 1) (nI t) 0 sz (nI p') (nI fl) row1 = _
            rw [g_X8_parseLevel_34]
            unfold g_X8_parseLevel_34b
            rw [if_neg (nf_ne (fl := fl) (by omega))]
            split <;> rfl
          have h3 := hk 1 (by omega) (by omega)
          have h4 := hk 40 (by omega) (by omega)
          refine Or.inr ⟨fl, p', sz, row1, PF.levf e g1, g2, ?_⟩
          by_cases e2 : r = 2
          · rw [if_pos e2]; exact h3
          · rw [if_neg e2]; exact h4
      · simp (disch := omega) only [n_z1, n_z2, n_z3, n_z4, n_z5, n_z6, n_z7, n_z8, n_leL, n_leR, n_ltL, n_ltR, n_eqL, n_eqR, n_m1R, n_addL, n_addR, n_mulL, n_mulR, n_subR, n_subL, n_add, n_mul, n_neg, n_sub, n_le, n_lt, n_eq, nI_clamp, if_true, if_false, if_pos, if_neg, or_false, false_or, not_false_eq_true, not_true_eq_false]
        have e5 : r = 5 := by omega
        subst e5
        rcases ih1 d q E0 0 row hd hq hE hS (by omega) with ⟨E1, q1, row1, g1, g2, g3⟩ | ⟨fl, p', sz, row1, g1, g2, g3⟩
        · rw [g3, pb_some]
          exact Or.inl ⟨E1, q1, row1, g1, g2, rfl⟩
        · rw [g3, pb_some]
          exact Or.inr ⟨fl, p', sz, row1, g1, g2, rfl⟩
    · rw [x_rec1]
      unfold g_X8_parseUnit
      obtain ⟨qb, b1, b2, b3, b4, b5, b6, b7⟩ := x_unit5 hf hT (nI d) (nI q) (g_X8_rec 40 1 (nI L) f D) (nI E0.length) (-1) row 40 zF q (by omega) (by decide) (by omega)
      have b2' := b2 hq
      rw [b7]
      unfold g_X8_parseUnit_45
      rcases ih2 d qb E0 0 row hd b2' (by omega) hS b5 (by omega) with ⟨E1, q1, row1, g1, g2, g3⟩ | ⟨fl, p', sz, row1, g1, g2, g3⟩
      · rw [g3, pb_some]
        have g4 := ps_len hT g1
        have g5 := g4.2.2 b2'
        have g6 : PS c L 5 d qb E1 q1 := PS.opd b5 (by rw [b4]; exact g1)
        obtain ⟨E', k1, k2⟩ := ps_back g6 b2' _ q rfl b1 b6
        obtain ⟨E'', row2, m1, m2, m3⟩ := x_unit60 hf hL (nI d) (g_X8_rec 40 1 (nI L) f D) q (nI q1) _ zF qb (E1 ++ E0) row1 rfl (by show qb - q < 65536; omega) b2' (by rw [List.length_append]; omega) g2 (by omega)
        rw [← k2] at m3
        subst m3
        exact Or.inl ⟨E'' ++ E1, q1, row2, k1, by rw [List.append_assoc]; exact m2, by rw [List.append_assoc]; exact m1⟩
      · have g4 := pf_le hT g1 b2'
        rw [g3, pb_some]
        refine Or.inr ⟨fl, p', sz, row1, ?_, g2, ?_⟩
        · exact pf_back (PF.opdf b5 (by rw [b4]; exact g1)) b2' _ q rfl b1 b6
        · exact x_unit60d hf hL (nI d) (g_X8_rec 40 1 (nI L) f D) q sz (nI p') (nI fl) (nf_ne (by omega)) row1 800 zF qb (by omega) (by decide) (by omega) (by omega)
    · rw [x_rec2]
      unfold g_X8_parseOperand
      rw [x_ahead hf hL (by omega)]
      simp only [x_isDigit, x_nameOf, pb_some]
      have g1 := sk_ge c L _ q (Nat.le_refl _)
      have g2 := sk_le c L _ q (Nat.le_refl _) hq
      by_cases e1 : isDg (ah c L q)
      · have e2 := ah_ne hT (dg_kind e1).2.2.2.2.2.2
        have e3 := dE_le c L _ (sk c L q) (Nat.le_refl _) g2
        have e4 := dE_ge c L _ (sk c L q) (Nat.le_refl _)
        rw [if_pos e1, if_neg (by decide)]
        have h := x_num7 hf hT (nI E0.length) (-1) row (sk c L q) 40 zF (sk c L q) (by omega) (by decide) (Nat.le_refl _) (by omega)
        rw [Nat.sub_self, Nat.zero_min] at h
        have e : g_X8_parseNumber 40 1 (nI L) f (nI E0.length) (nI (sk c L q)) (-1) row = g_X8_parseNumber_7 40 1 (nI L) f zF (nI (sk c L q)) (nI (nv c (sk c L q) 0)) (nI E0.length) (nI (sk c L q)) (-1) row := rfl
        rw [e, h]
        unfold g_X8_parseNumber_93 g_X8_parseNumber_110
        rw [n_sub e4]
        by_cases e5 : dE c L (sk c L q) - sk c L q ≤ 6
        · simp (disch := omega) only [n_z1, n_z2, n_z3, n_z4, n_z5, n_z6, n_z7, n_z8, n_leL, n_leR, n_ltL, n_ltR, n_eqL, n_eqR, n_m1R, n_addL, n_addR, n_mulL, n_mulR, n_subR, n_subL, n_add, n_mul, n_neg, n_sub, n_le, n_lt, n_eq, nI_clamp, if_true, if_false, if_pos, if_neg, or_false, false_or, not_false_eq_true, not_true_eq_false]
          rw [show min (dE c L (sk c L q) - sk c L q) 6 = dE c L (sk c L q) - sk c L q by omega]
          simp only [x_emit _ (show E0.length < 40 by omega), pb_some]
          exact Or.inl ⟨_, _, _, PS.num e1 e5, stk_push _ hS, rfl⟩
        · simp (disch := omega) only [n_z1, n_z2, n_z3, n_z4, n_z5, n_z6, n_z7, n_z8, n_leL, n_leR, n_ltL, n_ltR, n_eqL, n_eqR, n_m1R, n_addL, n_addR, n_mulL, n_mulR, n_subR, n_subL, n_add, n_mul, n_neg, n_sub, n_le, n_lt, n_eq, nI_clamp, if_true, if_false, if_pos, if_neg, or_false, false_or, not_false_eq_true, not_true_eq_false, x_stop, pb_some]
          have e6 := PF.longn (d := d) e1 e5
          have e7 := pf_le hT e6 hq
          refine Or.inr ⟨_, dE c L (sk c L q), nI E0.length, row, e6, by omega, ?_⟩
          rw [x_emitd (nf_ne (by omega)), pb_some, pb_some]
      · rw [if_neg e1, if_pos rfl]
        by_cases e2 : nmN (ah c L q) = 9
        · rw [if_pos e2, if_pos rfl]
          by_cases e3 : ah c L q = 40
          · have e4 := ah_ne hT (q := q) (fun e => by rw [e3] at e; revert e; decide)
            rw [if_pos e3]
            by_cases e5 : d < 8
            · simp (disch := omega) only [n_z1, n_z2, n_z3, n_z4, n_z5, n_z6, n_z7, n_z8, n_leL, n_leR, n_ltL, n_ltR, n_eqL, n_eqR, n_m1R, n_addL, n_addR, n_mulL, n_mulR, n_subR, n_subL, n_add, n_mul, n_neg, n_sub, n_le, n_lt, n_eq, nI_clamp, if_true, if_false, if_pos, if_neg, or_false, false_or, not_false_eq_true, not_true_eq_false]
              rcases ih0 0 (d + 1) (sk c L q + 1) E0 row (by omega) (by omega) (by omega) (by omega) hS (by omega) with ⟨E1, q1, row1, k1, k2, k3⟩ | ⟨fl, p', sz, row1, k1, k2, k3⟩
              · rw [show nI 0 = 0 from rfl] at k3
                have k4 := (ps_len hT k1).2.2 (by omega)
                have k5 := sk_le c L _ q1 (Nat.le_refl _) k4
                rw [k3]
                simp only [pb_some, x_ahead hf hL (show q1 < 1000 by omega), x_stop]
                unfold g_X8_parseOperand_122
                by_cases e6 : ah c L q1 = 41
                · rw [if_pos e6]
                  refine Or.inl ⟨E1, _, row1, PS.par e3 e5 k1 e6, k2, ?_⟩
                  simp (disch := omega) only [n_z1, n_z2, n_z3, n_z4, n_z5, n_z6, n_z7, n_z8, n_leL, n_leR, n_ltL, n_ltR, n_eqL, n_eqR, n_m1R, n_addL, n_addR, n_mulL, n_mulR, n_subR, n_subL, n_add, n_mul, n_neg, n_sub, n_le, n_lt, n_eq, nI_clamp, if_true, if_false, if_pos, if_neg, or_false, false_or, not_false_eq_true, not_true_eq_false]
                · rw [if_neg e6]
                  refine Or.inr ⟨_, sk c L q1 + 1, nI (E1 ++ E0).length, row1, PF.parx e3 e5 k1 e6, by omega, ?_⟩
                  simp (disch := omega) only [n_z1, n_z2, n_z3, n_z4, n_z5, n_z6, n_z7, n_z8, n_leL, n_leR, n_ltL, n_ltR, n_eqL, n_eqR, n_m1R, n_addL, n_addR, n_mulL, n_mulR, n_subR, n_subL, n_add, n_mul, n_neg, n_sub, n_le, n_lt, n_eq, nI_clamp, if_true, if_false, if_pos, if_neg, or_false, false_or, not_false_eq_true, not_true_eq_false]
              · rw [show nI 0 = 0 from rfl] at k3
                have k4 := pf_le hT k1 (by omega)
                have k5 := sk_le c L _ p' (Nat.le_refl _)
                have k6 : L ≤ p' → sk c L p' = p' := fun h => sk_end h
                rw [k3]
                simp only [pb_some, x_ahead hf hL (show p' < 1000 by omega), x_stopd (nf_ne (show fl < 1000 by omega))]
                unfold g_X8_parseOperand_122
                refine Or.inr ⟨fl, sk c L p' + 1, sz, row1, PF.parf e3 e5 k1, by omega, ?_⟩
                rw [ite_self]
                simp (disch := omega) only [n_z1, n_z2, n_z3, n_z4, n_z5, n_z6, n_z7, n_z8, n_leL, n_leR, n_ltL, n_ltR, n_eqL, n_eqR, n_m1R, n_addL, n_addR, n_mulL, n_mulR, n_subR, n_subL, n_add, n_mul, n_neg, n_sub, n_le, n_lt, n_eq, nI_clamp, if_true, if_false, if_pos, if_neg, or_false, false_or, not_false_eq_true, not_true_eq_false]
            · simp (disch := omega) only [n_z1, n_z2, n_z3, n_z4, n_z5, n_z6, n_z7, n_z8, n_leL, n_leR, n_ltL, n_ltR, n_eqL, n_eqR, n_m1R, n_addL, n_addR, n_mulL, n_mulR, n_subR, n_subL, n_add, n_mul, n_neg, n_sub, n_le, n_lt, n_eq, nI_clamp, if_true, if_false, if_pos, if_neg, or_false, false_or, not_false_eq_true, not_true_eq_false, x_stop, pb_some]
              exact Or.inr ⟨_, sk c L q, nI E0.length, row, PF.deep e3 e5, by omega, rfl⟩
          · rw [if_neg e3]
            simp (disch := omega) only [n_z1, n_z2, n_z3, n_z4, n_z5, n_z6, n_z7, n_z8, n_leL, n_leR, n_ltL, n_ltR, n_eqL, n_eqR, n_m1R, n_addL, n_addR, n_mulL, n_mulR, n_subR, n_subL, n_add, n_mul, n_neg, n_sub, n_le, n_lt, n_eq, nI_clamp, if_true, if_false, if_pos, if_neg, or_false, false_or, not_false_eq_true, not_true_eq_false, x_stop, pb_some]
            exact Or.inr ⟨_, sk c L q, nI E0.length, row, PF.stray e1 e2 e3 hp, by omega, rfl⟩
        · have e5 := nmN_le (ah c L q)
          have e3 := ah_ne hT (nm_ne (x := ah c L q) (by omega)).1
          have e4 : (if nmN (ah c L q) = 9 then (-1 : Int32) else nI (nmN (ah c L q))) ≠ -1 := by
            rw [if_neg e2]
            exact nf_ne (by omega)
          rw [if_neg e4, if_neg e2, x_emit _ (show E0.length < 40 by omega), pb_some]
          refine Or.inl ⟨_, _, _, PS.nam (by omega), stk_push _ hS, ?_⟩
          simp (disch := omega) only [n_z1, n_z2, n_z3, n_z4, n_z5, n_z6, n_z7, n_z8, n_leL, n_leR, n_ltL, n_ltR, n_eqL, n_eqR, n_m1R, n_addL, n_addR, n_mulL, n_mulR, n_subR, n_subL, n_add, n_mul, n_neg, n_sub, n_le, n_lt, n_eq, nI_clamp, if_true, if_false, if_pos, if_neg, or_false, false_or, not_false_eq_true, not_true_eq_false]
          rfl
end
