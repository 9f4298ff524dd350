/-! STEPS: digest -/
def mx (g : Nat → Int32) : Nat → Nat → Int64 → Int64
  | _, 0, h => h
  | i, k + 1, h => mx g (i + 1) k (31 * h + (g i).toInt64)
theorem mx_congr {f g : Nat → Int32} : ∀ (k i : Nat) (h : Int64), (∀ j, i ≤ j → j < i + k → f j = g j) → mx f i k h = mx g i k h
  | 0, _, _, _ => rfl
  | k + 1, i, h, e => by
    rw [mx, mx, e i (Nat.le_refl i) (by omega)]
    exact mx_congr k (i + 1) _ (fun j a b => e j (by omega) (by omega))
theorem mx_shift {f g : Nat → Int32} (a b : Nat) : ∀ (k i : Nat) (h : Int64), (∀ j, i ≤ j → j < i + k → f (a + j) = g (b + j)) → mx f (a + i) k h = mx g (b + i) k h
  | 0, _, _, _ => rfl
  | k + 1, i, h, e => by
    rw [mx, mx, e i (Nat.le_refl i) (by omega)]
    exact mx_shift a b k (i + 1) _ (fun j a b => e j (by omega) (by omega))
theorem x_mw (N : Nat) (hN : N < 1000) (f : Nat → Int32) (x0 : Int64) : ∀ (k z i : Nat) (h : Int64), N - i = k → k < z → i ≤ N → g_X9_mixedWith_13 N f x0 z h (nI N) (nI i) = some (mx f i k h)
  | _, 0, _, _, _, h, _ => absurd h (Nat.not_lt_zero _)
  | k, z + 1, i, h, h1, h2, h3 => by
    rw [g_X9_mixedWith_13]
    unfold g_X9_mixedWith_13b
    by_cases e : N ≤ i
    · rw [if_pos (show nI N ≤ nI i by simp (disch := omega) only [n_z1, n_z2, n_z3, n_z4, n_z5, n_z6, n_z7, n_z8, n_leL, n_leR, n_ltL, n_ltR, n_eqL, n_eqR, n_m1R, n_addL, n_addR, n_mulL, n_mulR, n_subR, n_subL, n_add, n_mul, n_neg, n_sub, n_le, n_lt, n_eq, nI_clamp, if_true, if_false, if_pos, if_neg, or_false, false_or, not_false_eq_true, not_true_eq_false]; omega), show k = 0 by omega, mx]
    · rw [if_neg (show ¬ nI N ≤ nI i by simp (disch := omega) only [n_z1, n_z2, n_z3, n_z4, n_z5, n_z6, n_z7, n_z8, n_leL, n_leR, n_ltL, n_ltR, n_eqL, n_eqR, n_m1R, n_addL, n_addR, n_mulL, n_mulR, n_subR, n_subL, n_add, n_mul, n_neg, n_sub, n_le, n_lt, n_eq, nI_clamp, if_true, if_false, if_pos, if_neg, or_false, false_or, not_false_eq_true, not_true_eq_false]; omega)]
      obtain ⟨k, rfl⟩ : ∃ q, k = q + 1 := ⟨k - 1, by omega⟩
      simp (disch := omega) only [n_z1, n_z2, n_z3, n_z4, n_z5, n_z6, n_z7, n_z8, n_leL, n_leR, n_ltL, n_ltR, n_eqL, n_eqR, n_m1R, n_addL, n_addR, n_mulL, n_mulR, n_subR, n_subL, n_add, n_mul, n_neg, n_sub, n_le, n_lt, n_eq, nI_clamp, if_true, if_false, if_pos, if_neg, or_false, false_or, not_false_eq_true, not_true_eq_false]
      rw [mx]
      exact x_mw N hN f x0 k z (i + 1) _ (by omega) (by omega) (by omega)
theorem x_rw (N n w : Nat) (hN : n * w ≤ N) (hN2 : N < 1000) (hn : n < 1000) (W R : Int32) (hW : W = nI w) (hR : R = nI n) (hw : w ≤ 3) (f : Nat → Int32) (x1 : Int64) : ∀ (k z i : Nat) (h : Int64), n * w - i = k → k < z → i ≤ n * w → g_X7_mixed_5 N W R f x1 z h (nI i) = some (mx f i k h)
  | _, 0, _, _, _, h, _ => absurd h (Nat.not_lt_zero _)
  | k, z + 1, i, h, h1, h2, h3 => by
    rw [g_X7_mixed_5]
    unfold g_X7_mixed_5b
    by_cases e : n * w ≤ i
    · rw [if_pos (show R * W ≤ nI i by rw [hR, hW]; simp (disch := omega) only [n_z1, n_z2, n_z3, n_z4, n_z5, n_z6, n_z7, n_z8, n_leL, n_leR, n_ltL, n_ltR, n_eqL, n_eqR, n_m1R, n_addL, n_addR, n_mulL, n_mulR, n_subR, n_subL, n_add, n_mul, n_neg, n_sub, n_le, n_lt, n_eq, nI_clamp, if_true, if_false, if_pos, if_neg, or_false, false_or, not_false_eq_true, not_true_eq_false]; omega), show k = 0 by omega, mx]
    · rw [if_neg (show ¬ R * W ≤ nI i by rw [hR, hW]; simp (disch := omega) only [n_z1, n_z2, n_z3, n_z4, n_z5, n_z6, n_z7, n_z8, n_leL, n_leR, n_ltL, n_ltR, n_eqL, n_eqR, n_m1R, n_addL, n_addR, n_mulL, n_mulR, n_subR, n_subL, n_add, n_mul, n_neg, n_sub, n_le, n_lt, n_eq, nI_clamp, if_true, if_false, if_pos, if_neg, or_false, false_or, not_false_eq_true, not_true_eq_false]; omega)]
      obtain ⟨k, rfl⟩ : ∃ q, k = q + 1 := ⟨k - 1, by omega⟩
      simp (disch := omega) only [n_z1, n_z2, n_z3, n_z4, n_z5, n_z6, n_z7, n_z8, n_leL, n_leR, n_ltL, n_ltR, n_eqL, n_eqR, n_m1R, n_addL, n_addR, n_mulL, n_mulR, n_subR, n_subL, n_add, n_mul, n_neg, n_sub, n_le, n_lt, n_eq, nI_clamp, if_true, if_false, if_pos, if_neg, or_false, false_or, not_false_eq_true, not_true_eq_false]
      rw [mx]
      exact x_rw N n w hN hN2 hn W R hW hR hw f x1 k z (i + 1) _ (by omega) (by omega) (by omega)
theorem x_rmix (N n w : Nat) (hN : n * w ≤ N) (hN2 : N < 1000) (hn : n < 1000) (W R : Int32) (hW : W = nI w) (hR : R = nI n) (hw : w ≤ 3) (f : Nat → Int32) (h : Int64) : g_X7_mixed N W R f h = some (mx f 0 (n * w) h) :=
  x_rw N n w hN hN2 hn W R hW hR hw f h (n * w) zF 0 h rfl (by show _ < 65536; omega) (by omega)
theorem x_wmix (N : Nat) (hN : N < 1000) (f : Nat → Int32) (h : Int64) : g_X9_mixedWith N f h = some (mx f 0 N h) :=
  x_mw N hN f h N zF 0 h rfl (by show _ < 65536; omega) (by omega)
theorem x_big2 {f : Nat → Int32} {n : Nat} (hs : SZ f n) (x1 : Int64) : ∀ (k z i : Nat) (h : Int64), n - i = k → k < z → i ≤ n → g_X0_mixed_5 f x1 z h (nI i) = some (mx f i k h)
  | _, 0, _, _, _, h, _ => absurd h (Nat.not_lt_zero _)
  | k, z + 1, i, h, h1, h2, h3 => by
    have hb := hs.1
    rw [g_X0_mixed_5]
    unfold g_X0_mixed_5b
    rw [x_size hs, pb_some]
    by_cases e : n ≤ i
    · rw [if_pos (show nI n ≤ nI i by simp (disch := omega) only [n_z1, n_z2, n_z3, n_z4, n_z5, n_z6, n_z7, n_z8, n_leL, n_leR, n_ltL, n_ltR, n_eqL, n_eqR, n_m1R, n_addL, n_addR, n_mulL, n_mulR, n_subR, n_subL, n_add, n_mul, n_neg, n_sub, n_le, n_lt, n_eq, nI_clamp, if_true, if_false, if_pos, if_neg, or_false, false_or, not_false_eq_true, not_true_eq_false]; omega), show k = 0 by omega, mx]
    · rw [if_neg (show ¬ nI n ≤ nI i by simp (disch := omega) only [n_z1, n_z2, n_z3, n_z4, n_z5, n_z6, n_z7, n_z8, n_leL, n_leR, n_ltL, n_ltR, n_eqL, n_eqR, n_m1R, n_addL, n_addR, n_mulL, n_mulR, n_subR, n_subL, n_add, n_mul, n_neg, n_sub, n_le, n_lt, n_eq, nI_clamp, if_true, if_false, if_pos, if_neg, or_false, false_or, not_false_eq_true, not_true_eq_false]; omega)]
      obtain ⟨k, rfl⟩ : ∃ q, k = q + 1 := ⟨k - 1, by omega⟩
      simp (disch := omega) only [n_z1, n_z2, n_z3, n_z4, n_z5, n_z6, n_z7, n_z8, n_leL, n_leR, n_ltL, n_ltR, n_eqL, n_eqR, n_m1R, n_addL, n_addR, n_mulL, n_mulR, n_subR, n_subL, n_add, n_mul, n_neg, n_sub, n_le, n_lt, n_eq, nI_clamp, if_true, if_false, if_pos, if_neg, or_false, false_or, not_false_eq_true, not_true_eq_false]
      rw [mx]
      exact x_big2 hs x1 k z (i + 1) _ (by omega) (by omega) (by omega)
theorem x_big {f : Nat → Int32} {n : Nat} (hs : SZ f n) (h : Int64) : g_X0_mixed f h = some (mx f 0 n h) :=
  x_big2 hs h n zF 0 h rfl (by have := hs.1; show _ < 65536; omega) (by omega)
/-- the fraction's mark -/
def mF (al bl : Nat → Int32) (na nb : Nat) (h : Int64) : Int64 := mx bl 0 nb (mx al 0 na (31 * (31 * (31 * h + (if na = 0 then (0 : Int32) else 1).toInt64) + (nI na).toInt64) + (nI nb).toInt64))
theorem x_fmix {al bl : Nat → Int32} {na nb : Nat} (ha : SZ al na) (hb : SZ bl nb) (h : Int64) : g_X2_mixed al bl h = some (mF al bl na nb h) := by
  have b1 := ha.1
  unfold g_X2_mixed
  have sh : g_X2_shape al bl (nI 0) = some (if na = 0 then (0 : Int32) else 1) ∧ g_X2_shape al bl (nI 1) = some (nI na) ∧ g_X2_shape al bl (nI 2) = some (nI nb) := by
    unfold g_X2_shape
    rw [x_size ha, x_size hb]
    refine ⟨?_, rfl, rfl⟩
    rw [if_pos (show nI 0 = 0 from rfl), pb_some]
    by_cases e : na = 0
    · rw [if_pos e, if_pos (show nI na ≤ 0 by rw [e]; decide)]
    · rw [if_neg e, if_neg (show ¬ nI na ≤ 0 by simp (disch := omega) only [n_z1, n_z2, n_z3, n_z4, n_z5, n_z6, n_z7, n_z8, n_leL, n_leR, n_ltL, n_ltR, n_eqL, n_eqR, n_m1R, n_addL, n_addR, n_mulL, n_mulR, n_subR, n_subL, n_add, n_mul, n_neg, n_sub, n_le, n_lt, n_eq, nI_clamp, if_true, if_false, if_pos, if_neg, or_false, false_or, not_false_eq_true, not_true_eq_false]; omega)]
  have s0 : ∀ z h, g_X2_mixed_5 al bl h (z + 1) = g_X2_mixed_5 al bl h (z + 1) := fun _ _ => rfl
  have st : ∀ (x1 : Int64) (z : Nat) (h : Int64) (i : Nat) (v : Int32), i ≤ 2 → g_X2_shape al bl (nI i) = some v → g_X2_mixed_5 al bl x1 (z + 1) h (nI i) = g_X2_mixed_5 al bl x1 z (31 * h + v.toInt64) (nI (i + 1)) := by
    intro x1 z h i v hi hv
    rw [g_X2_mixed_5]
    unfold g_X2_mixed_5b
    rw [if_neg (show ¬ 2 < nI i by simp (disch := omega) only [n_z1, n_z2, n_z3, n_z4, n_z5, n_z6, n_z7, n_z8, n_leL, n_leR, n_ltL, n_ltR, n_eqL, n_eqR, n_m1R, n_addL, n_addR, n_mulL, n_mulR, n_subR, n_subL, n_add, n_mul, n_neg, n_sub, n_le, n_lt, n_eq, nI_clamp, if_true, if_false, if_pos, if_neg, or_false, false_or, not_false_eq_true, not_true_eq_false]; omega), hv, pb_some, n_addR]
  have e0 : g_X2_mixed_5 al bl h zF h 0 = g_X2_mixed_5 al bl h (65535 + 1) h (nI 0) := rfl
  rw [e0, st _ 65535 _ 0 _ (by omega) sh.1, show 65535 = 65534 + 1 from rfl, st _ 65534 _ (0 + 1) _ (by omega) sh.2.1, show 65534 = 65533 + 1 from rfl, st _ 65533 _ (0 + 1 + 1) _ (by omega) sh.2.2, show 65533 = 65532 + 1 from rfl, g_X2_mixed_5]
  unfold g_X2_mixed_5b
  rw [if_pos (by decide), x_big ha, pb_some, x_big hb, pb_some]
  rfl
section
variable {w bm am2 : Nat → Int32} {size sg ma mb : Int32} {np nt nd ns nr na nb : Nat}
theorem m_384 (hb : mb = nI nb) (h8 : nb ≤ 8) : ∀ (k z i : Nat) (h : Int64), nb - i = k → k < z → i ≤ nb → g_X11_digest_384 size sg ma mb w bm am2 z h (nI i) = some (mx bm i k h)
  | _, 0, _, _, _, h, _ => absurd h (Nat.not_lt_zero _)
  | k, z + 1, i, h, h1, h2, h3 => by
    rw [g_X11_digest_384]
    unfold g_X11_digest_384b g_X11_mixed
    by_cases e : nb ≤ i
    · rw [if_pos (show mb ≤ nI i by rw [hb]; simp (disch := omega) only [n_z1, n_z2, n_z3, n_z4, n_z5, n_z6, n_z7, n_z8, n_leL, n_leR, n_ltL, n_ltR, n_eqL, n_eqR, n_m1R, n_addL, n_addR, n_mulL, n_mulR, n_subR, n_subL, n_add, n_mul, n_neg, n_sub, n_le, n_lt, n_eq, nI_clamp, if_true, if_false, if_pos, if_neg, or_false, false_or, not_false_eq_true, not_true_eq_false]; omega), show k = 0 by omega, mx]
    · rw [if_neg (show ¬ mb ≤ nI i by rw [hb]; simp (disch := omega) only [n_z1, n_z2, n_z3, n_z4, n_z5, n_z6, n_z7, n_z8, n_leL, n_leR, n_ltL, n_ltR, n_eqL, n_eqR, n_m1R, n_addL, n_addR, n_mulL, n_mulR, n_subR, n_subL, n_add, n_mul, n_neg, n_sub, n_le, n_lt, n_eq, nI_clamp, if_true, if_false, if_pos, if_neg, or_false, false_or, not_false_eq_true, not_true_eq_false]; omega)]
      obtain ⟨k, rfl⟩ : ∃ q, k = q + 1 := ⟨k - 1, by omega⟩
      simp (disch := omega) only [n_z1, n_z2, n_z3, n_z4, n_z5, n_z6, n_z7, n_z8, n_leL, n_leR, n_ltL, n_ltR, n_eqL, n_eqR, n_m1R, n_addL, n_addR, n_mulL, n_mulR, n_subR, n_subL, n_add, n_mul, n_neg, n_sub, n_le, n_lt, n_eq, nI_clamp, if_true, if_false, if_pos, if_neg, or_false, false_or, not_false_eq_true, not_true_eq_false, pb_some]
      rw [mx]
      exact m_384 hb h8 k z (i + 1) _ (by omega) (by omega) (by omega)
theorem m_356 (ha : ma = nI na) (hb : mb = nI nb) (h7 : na ≤ 8) (h8 : nb ≤ 8) : ∀ (k z i : Nat) (h : Int64), na - i = k → k < z → i ≤ na → g_X11_digest_356 size sg ma mb w bm am2 z h (nI i) = some (mx bm 0 nb (mx am2 i k h))
  | _, 0, _, _, _, h, _ => absurd h (Nat.not_lt_zero _)
  | k, z + 1, i, h, h1, h2, h3 => by
    rw [g_X11_digest_356]
    unfold g_X11_digest_356b g_X11_mixed
    by_cases e : na ≤ i
    · rw [if_pos (show ma ≤ nI i by rw [ha]; simp (disch := omega) only [n_z1, n_z2, n_z3, n_z4, n_z5, n_z6, n_z7, n_z8, n_leL, n_leR, n_ltL, n_ltR, n_eqL, n_eqR, n_m1R, n_addL, n_addR, n_mulL, n_mulR, n_subR, n_subL, n_add, n_mul, n_neg, n_sub, n_le, n_lt, n_eq, nI_clamp, if_true, if_false, if_pos, if_neg, or_false, false_or, not_false_eq_true, not_true_eq_false]; omega), show k = 0 by omega, mx]
      exact m_384 hb h8 nb zF 0 h rfl (by show _ < 65536; omega) (by omega)
    · rw [if_neg (show ¬ ma ≤ nI i by rw [ha]; simp (disch := omega) only [n_z1, n_z2, n_z3, n_z4, n_z5, n_z6, n_z7, n_z8, n_leL, n_leR, n_ltL, n_ltR, n_eqL, n_eqR, n_m1R, n_addL, n_addR, n_mulL, n_mulR, n_subR, n_subL, n_add, n_mul, n_neg, n_sub, n_le, n_lt, n_eq, nI_clamp, if_true, if_false, if_pos, if_neg, or_false, false_or, not_false_eq_true, not_true_eq_false]; omega)]
      obtain ⟨k, rfl⟩ : ∃ q, k = q + 1 := ⟨k - 1, by omega⟩
      simp (disch := omega) only [n_z1, n_z2, n_z3, n_z4, n_z5, n_z6, n_z7, n_z8, n_leL, n_leR, n_ltL, n_ltR, n_eqL, n_eqR, n_m1R, n_addL, n_addR, n_mulL, n_mulR, n_subR, n_subL, n_add, n_mul, n_neg, n_sub, n_le, n_lt, n_eq, nI_clamp, if_true, if_false, if_pos, if_neg, or_false, false_or, not_false_eq_true, not_true_eq_false, pb_some]
      rw [mx]
      exact m_356 ha hb h7 h8 k z (i + 1) _ (by omega) (by omega) (by omega)
/-- what the reference does behind the row -/
def mE (bm am2 : Nat → Int32) (sg : Int32) (na nb : Nat) (h : Int64) : Int64 := mx bm 0 nb (mx am2 0 na (31 * (31 * (31 * h + sg.toInt64) + (nI na).toInt64) + (nI nb).toInt64))
theorem m_296 (hw : w 7 = nI nr) (hn : nr ≤ 40) (ha : ma = nI na) (hb : mb = nI nb) (h7 : na ≤ 8) (h8 : nb ≤ 8) : ∀ (k z i : Nat) (h : Int64), nr - i = k → k < z → i ≤ nr → g_X11_digest_296 size sg ma mb w bm am2 z h (nI i) = some (mE bm am2 sg na nb (mx (fun j => w (115 + j)) i k h))
  | _, 0, _, _, _, h, _ => absurd h (Nat.not_lt_zero _)
  | k, z + 1, i, h, h1, h2, h3 => by
    rw [g_X11_digest_296]
    unfold g_X11_digest_296b g_X11_mixed
    by_cases e : nr ≤ i
    · rw [if_pos (show w 7 ≤ nI i by rw [hw]; simp (disch := omega) only [n_z1, n_z2, n_z3, n_z4, n_z5, n_z6, n_z7, n_z8, n_leL, n_leR, n_ltL, n_ltR, n_eqL, n_eqR, n_m1R, n_addL, n_addR, n_mulL, n_mulR, n_subR, n_subL, n_add, n_mul, n_neg, n_sub, n_le, n_lt, n_eq, nI_clamp, if_true, if_false, if_pos, if_neg, or_false, false_or, not_false_eq_true, not_true_eq_false]; omega), show k = 0 by omega, mx, pb_some, pb_some, pb_some]
      have := m_356 (size := size) (sg := sg) (w := w) (bm := bm) (am2 := am2) ha hb h7 h8 na zF 0 (31 * (31 * (31 * h + sg.toInt64) + ma.toInt64) + mb.toInt64) rfl (by show _ < 65536; omega) (by omega)
      unfold mE
      rw [← ha, ← hb]
      exact this
    · rw [if_neg (show ¬ w 7 ≤ nI i by rw [hw]; simp (disch := omega) only [n_z1, n_z2, n_z3, n_z4, n_z5, n_z6, n_z7, n_z8, n_leL, n_leR, n_ltL, n_ltR, n_eqL, n_eqR, n_m1R, n_addL, n_addR, n_mulL, n_mulR, n_subR, n_subL, n_add, n_mul, n_neg, n_sub, n_le, n_lt, n_eq, nI_clamp, if_true, if_false, if_pos, if_neg, or_false, false_or, not_false_eq_true, not_true_eq_false]; omega)]
      obtain ⟨k, rfl⟩ : ∃ q, k = q + 1 := ⟨k - 1, by omega⟩
      simp (disch := omega) only [n_z1, n_z2, n_z3, n_z4, n_z5, n_z6, n_z7, n_z8, n_leL, n_leR, n_ltL, n_ltR, n_eqL, n_eqR, n_m1R, n_addL, n_addR, n_mulL, n_mulR, n_subR, n_subL, n_add, n_mul, n_neg, n_sub, n_le, n_lt, n_eq, nI_clamp, if_true, if_false, if_pos, if_neg, or_false, false_or, not_false_eq_true, not_true_eq_false, pb_some]
      rw [mx]
      exact m_296 hw hn ha hb h7 h8 k z (i + 1) _ (by omega) (by omega) (by omega)
theorem m_270 (X : Int64 → Option Int64) (hX : ∀ h, g_X11_digest_296 size sg ma mb w bm am2 zF h 0 = X h) : ∀ (k z i : Nat) (h : Int64), 5 - i = k → k < z → i ≤ 5 → g_X11_digest_270 size sg ma mb w bm am2 z h (nI (8 + i)) = X (mx (fun j => w (8 + j)) i k h)
  | _, 0, _, _, _, h, _ => absurd h (Nat.not_lt_zero _)
  | k, z + 1, i, h, h1, h2, h3 => by
    rw [g_X11_digest_270]
    unfold g_X11_digest_270b g_X11_mixed
    by_cases e : 5 ≤ i
    · rw [if_pos (show 12 < nI (8 + i) by simp (disch := omega) only [n_z1, n_z2, n_z3, n_z4, n_z5, n_z6, n_z7, n_z8, n_leL, n_leR, n_ltL, n_ltR, n_eqL, n_eqR, n_m1R, n_addL, n_addR, n_mulL, n_mulR, n_subR, n_subL, n_add, n_mul, n_neg, n_sub, n_le, n_lt, n_eq, nI_clamp, if_true, if_false, if_pos, if_neg, or_false, false_or, not_false_eq_true, not_true_eq_false]; omega), show k = 0 by omega, mx, hX]
    · rw [if_neg (show ¬ 12 < nI (8 + i) by simp (disch := omega) only [n_z1, n_z2, n_z3, n_z4, n_z5, n_z6, n_z7, n_z8, n_leL, n_leR, n_ltL, n_ltR, n_eqL, n_eqR, n_m1R, n_addL, n_addR, n_mulL, n_mulR, n_subR, n_subL, n_add, n_mul, n_neg, n_sub, n_le, n_lt, n_eq, nI_clamp, if_true, if_false, if_pos, if_neg, or_false, false_or, not_false_eq_true, not_true_eq_false]; omega)]
      obtain ⟨k, rfl⟩ : ∃ q, k = q + 1 := ⟨k - 1, by omega⟩
      simp (disch := omega) only [n_z1, n_z2, n_z3, n_z4, n_z5, n_z6, n_z7, n_z8, n_leL, n_leR, n_ltL, n_ltR, n_eqL, n_eqR, n_m1R, n_addL, n_addR, n_mulL, n_mulR, n_subR, n_subL, n_add, n_mul, n_neg, n_sub, n_le, n_lt, n_eq, nI_clamp, if_true, if_false, if_pos, if_neg, or_false, false_or, not_false_eq_true, not_true_eq_false, pb_some]
      rw [mx]
      exact m_270 X hX k z (i + 1) _ (by omega) (by omega) (by omega)
theorem m_222 {c : Nat → Int32} (hw : w 6 = nI ns) (hn : ns ≤ 10) (hc : ∀ k, k < ns → c (2 * k) = w (95 + k) ∧ c (2 * k + 1) = w (105 + k)) (X : Int64 → Option Int64) (hX : ∀ h, g_X11_digest_270 size sg ma mb w bm am2 zF h 8 = X h) : ∀ (k z i : Nat) (h : Int64), ns - i = k → k < z → i ≤ ns → g_X11_digest_222 size sg ma mb w bm am2 z h (nI i) = X (mx c (2 * i) (2 * k) h)
  | _, 0, _, _, _, h, _ => absurd h (Nat.not_lt_zero _)
  | k, z + 1, i, h, h1, h2, h3 => by
    rw [g_X11_digest_222]
    unfold g_X11_digest_222b g_X11_mixed
    by_cases e : ns ≤ i
    · rw [if_pos (show w 6 ≤ nI i by rw [hw]; simp (disch := omega) only [n_z1, n_z2, n_z3, n_z4, n_z5, n_z6, n_z7, n_z8, n_leL, n_leR, n_ltL, n_ltR, n_eqL, n_eqR, n_m1R, n_addL, n_addR, n_mulL, n_mulR, n_subR, n_subL, n_add, n_mul, n_neg, n_sub, n_le, n_lt, n_eq, nI_clamp, if_true, if_false, if_pos, if_neg, or_false, false_or, not_false_eq_true, not_true_eq_false]; omega), show 2 * k = 0 by omega, mx, hX]
    · rw [if_neg (show ¬ w 6 ≤ nI i by rw [hw]; simp (disch := omega) only [n_z1, n_z2, n_z3, n_z4, n_z5, n_z6, n_z7, n_z8, n_leL, n_leR, n_ltL, n_ltR, n_eqL, n_eqR, n_m1R, n_addL, n_addR, n_mulL, n_mulR, n_subR, n_subL, n_add, n_mul, n_neg, n_sub, n_le, n_lt, n_eq, nI_clamp, if_true, if_false, if_pos, if_neg, or_false, false_or, not_false_eq_true, not_true_eq_false]; omega)]
      obtain ⟨k, rfl⟩ : ∃ q, k = q + 1 := ⟨k - 1, by omega⟩
      simp (disch := omega) only [n_z1, n_z2, n_z3, n_z4, n_z5, n_z6, n_z7, n_z8, n_leL, n_leR, n_ltL, n_ltR, n_eqL, n_eqR, n_m1R, n_addL, n_addR, n_mulL, n_mulR, n_subR, n_subL, n_add, n_mul, n_neg, n_sub, n_le, n_lt, n_eq, nI_clamp, if_true, if_false, if_pos, if_neg, or_false, false_or, not_false_eq_true, not_true_eq_false, pb_some]
      rw [show 2 * (k + 1) = 2 * k + 1 + 1 by omega, mx, mx, (hc i (by omega)).1, (hc i (by omega)).2]
      exact m_222 hw hn hc X hX k z (i + 1) _ (by omega) (by omega) (by omega)
theorem m_163 {c : Nat → Int32} (hw : w 5 = nI nd) (hn : nd ≤ 8) (hc : ∀ k, k < nd → c (3 * k) = w (71 + k) ∧ c (3 * k + 1) = w (79 + k) ∧ c (3 * k + 2) = w (87 + k)) (X : Int64 → Option Int64) (hX : ∀ h, g_X11_digest_222 size sg ma mb w bm am2 zF h 0 = X h) : ∀ (k z i : Nat) (h : Int64), nd - i = k → k < z → i ≤ nd → g_X11_digest_163 size sg ma mb w bm am2 z h (nI i) = X (mx c (3 * i) (3 * k) h)
  | _, 0, _, _, _, h, _ => absurd h (Nat.not_lt_zero _)
  | k, z + 1, i, h, h1, h2, h3 => by
    rw [g_X11_digest_163]
    unfold g_X11_digest_163b g_X11_mixed
    by_cases e : nd ≤ i
    · rw [if_pos (show w 5 ≤ nI i by rw [hw]; simp (disch := omega) only [n_z1, n_z2, n_z3, n_z4, n_z5, n_z6, n_z7, n_z8, n_leL, n_leR, n_ltL, n_ltR, n_eqL, n_eqR, n_m1R, n_addL, n_addR, n_mulL, n_mulR, n_subR, n_subL, n_add, n_mul, n_neg, n_sub, n_le, n_lt, n_eq, nI_clamp, if_true, if_false, if_pos, if_neg, or_false, false_or, not_false_eq_true, not_true_eq_false]; omega), show 3 * k = 0 by omega, mx, hX]
    · rw [if_neg (show ¬ w 5 ≤ nI i by rw [hw]; simp (disch := omega) only [n_z1, n_z2, n_z3, n_z4, n_z5, n_z6, n_z7, n_z8, n_leL, n_leR, n_ltL, n_ltR, n_eqL, n_eqR, n_m1R, n_addL, n_addR, n_mulL, n_mulR, n_subR, n_subL, n_add, n_mul, n_neg, n_sub, n_le, n_lt, n_eq, nI_clamp, if_true, if_false, if_pos, if_neg, or_false, false_or, not_false_eq_true, not_true_eq_false]; omega)]
      obtain ⟨k, rfl⟩ : ∃ q, k = q + 1 := ⟨k - 1, by omega⟩
      simp (disch := omega) only [n_z1, n_z2, n_z3, n_z4, n_z5, n_z6, n_z7, n_z8, n_leL, n_leR, n_ltL, n_ltR, n_eqL, n_eqR, n_m1R, n_addL, n_addR, n_mulL, n_mulR, n_subR, n_subL, n_add, n_mul, n_neg, n_sub, n_le, n_lt, n_eq, nI_clamp, if_true, if_false, if_pos, if_neg, or_false, false_or, not_false_eq_true, not_true_eq_false, pb_some]
      rw [show 3 * (k + 1) = 3 * k + 1 + 1 + 1 by omega, mx, mx, mx, (hc i (by omega)).1, (hc i (by omega)).2.1, show 3 * i + 1 + 1 = 3 * i + 2 from rfl, (hc i (by omega)).2.2]
      exact m_163 hw hn hc X hX k z (i + 1) _ (by omega) (by omega) (by omega)
theorem m_104 {c : Nat → Int32} (hw : w 4 = nI nt) (hn : nt ≤ 16) (hc : ∀ k, k < nt → c (3 * k) = w (23 + k) ∧ c (3 * k + 1) = w (39 + k) ∧ c (3 * k + 2) = w (55 + k)) (X : Int64 → Option Int64) (hX : ∀ h, g_X11_digest_163 size sg ma mb w bm am2 zF h 0 = X h) : ∀ (k z i : Nat) (h : Int64), nt - i = k → k < z → i ≤ nt → g_X11_digest_104 size sg ma mb w bm am2 z h (nI i) = X (mx c (3 * i) (3 * k) h)
  | _, 0, _, _, _, h, _ => absurd h (Nat.not_lt_zero _)
  | k, z + 1, i, h, h1, h2, h3 => by
    rw [g_X11_digest_104]
    unfold g_X11_digest_104b g_X11_mixed
    by_cases e : nt ≤ i
    · rw [if_pos (show w 4 ≤ nI i by rw [hw]; simp (disch := omega) only [n_z1, n_z2, n_z3, n_z4, n_z5, n_z6, n_z7, n_z8, n_leL, n_leR, n_ltL, n_ltR, n_eqL, n_eqR, n_m1R, n_addL, n_addR, n_mulL, n_mulR, n_subR, n_subL, n_add, n_mul, n_neg, n_sub, n_le, n_lt, n_eq, nI_clamp, if_true, if_false, if_pos, if_neg, or_false, false_or, not_false_eq_true, not_true_eq_false]; omega), show 3 * k = 0 by omega, mx, hX]
    · rw [if_neg (show ¬ w 4 ≤ nI i by rw [hw]; simp (disch := omega) only [n_z1, n_z2, n_z3, n_z4, n_z5, n_z6, n_z7, n_z8, n_leL, n_leR, n_ltL, n_ltR, n_eqL, n_eqR, n_m1R, n_addL, n_addR, n_mulL, n_mulR, n_subR, n_subL, n_add, n_mul, n_neg, n_sub, n_le, n_lt, n_eq, nI_clamp, if_true, if_false, if_pos, if_neg, or_false, false_or, not_false_eq_true, not_true_eq_false]; omega)]
      obtain ⟨k, rfl⟩ : ∃ q, k = q + 1 := ⟨k - 1, by omega⟩
      simp (disch := omega) only [n_z1, n_z2, n_z3, n_z4, n_z5, n_z6, n_z7, n_z8, n_leL, n_leR, n_ltL, n_ltR, n_eqL, n_eqR, n_m1R, n_addL, n_addR, n_mulL, n_mulR, n_subR, n_subL, n_add, n_mul, n_neg, n_sub, n_le, n_lt, n_eq, nI_clamp, if_true, if_false, if_pos, if_neg, or_false, false_or, not_false_eq_true, not_true_eq_false, pb_some]
      rw [show 3 * (k + 1) = 3 * k + 1 + 1 + 1 by omega, mx, mx, mx, (hc i (by omega)).1, (hc i (by omega)).2.1, show 3 * i + 1 + 1 = 3 * i + 2 from rfl, (hc i (by omega)).2.2]
      exact m_104 hw hn hc X hX k z (i + 1) _ (by omega) (by omega) (by omega)
theorem m_58 {c : Nat → Int32} (hw : w 3 = nI np) (hn : np ≤ 5) (hc : ∀ k, k < np → c (2 * k) = w (13 + k) ∧ c (2 * k + 1) = w (18 + k)) (X : Int64 → Option Int64) (hX : ∀ h, g_X11_digest_104 size sg ma mb w bm am2 zF h 0 = X h) : ∀ (k z i : Nat) (h : Int64), np - i = k → k < z → i ≤ np → g_X11_digest_58 size sg ma mb w bm am2 z h (nI i) = X (mx c (2 * i) (2 * k) h)
  | _, 0, _, _, _, h, _ => absurd h (Nat.not_lt_zero _)
  | k, z + 1, i, h, h1, h2, h3 => by
    rw [g_X11_digest_58]
    unfold g_X11_digest_58b g_X11_mixed
    by_cases e : np ≤ i
    · rw [if_pos (show w 3 ≤ nI i by rw [hw]; simp (disch := omega) only [n_z1, n_z2, n_z3, n_z4, n_z5, n_z6, n_z7, n_z8, n_leL, n_leR, n_ltL, n_ltR, n_eqL, n_eqR, n_m1R, n_addL, n_addR, n_mulL, n_mulR, n_subR, n_subL, n_add, n_mul, n_neg, n_sub, n_le, n_lt, n_eq, nI_clamp, if_true, if_false, if_pos, if_neg, or_false, false_or, not_false_eq_true, not_true_eq_false]; omega), show 2 * k = 0 by omega, mx, hX]
    · rw [if_neg (show ¬ w 3 ≤ nI i by rw [hw]; simp (disch := omega) only [n_z1, n_z2, n_z3, n_z4, n_z5, n_z6, n_z7, n_z8, n_leL, n_leR, n_ltL, n_ltR, n_eqL, n_eqR, n_m1R, n_addL, n_addR, n_mulL, n_mulR, n_subR, n_subL, n_add, n_mul, n_neg, n_sub, n_le, n_lt, n_eq, nI_clamp, if_true, if_false, if_pos, if_neg, or_false, false_or, not_false_eq_true, not_true_eq_false]; omega)]
      obtain ⟨k, rfl⟩ : ∃ q, k = q + 1 := ⟨k - 1, by omega⟩
      simp (disch := omega) only [n_z1, n_z2, n_z3, n_z4, n_z5, n_z6, n_z7, n_z8, n_leL, n_leR, n_ltL, n_ltR, n_eqL, n_eqR, n_m1R, n_addL, n_addR, n_mulL, n_mulR, n_subR, n_subL, n_add, n_mul, n_neg, n_sub, n_le, n_lt, n_eq, nI_clamp, if_true, if_false, if_pos, if_neg, or_false, false_or, not_false_eq_true, not_true_eq_false, pb_some]
      rw [show 2 * (k + 1) = 2 * k + 1 + 1 by omega, mx, mx, (hc i (by omega)).1, (hc i (by omega)).2]
      exact m_58 hw hn hc X hX k z (i + 1) _ (by omega) (by omega) (by omega)
theorem m_31 (X : Int64 → Option Int64) (hX : ∀ h, g_X11_digest_58 size sg ma mb w bm am2 zF h 0 = X h) : ∀ (k z i : Nat) (h : Int64), 3 - i = k → k < z → i ≤ 3 → g_X11_digest_31 size sg ma mb w bm am2 z h (nI i) = X (mx w i k h)
  | _, 0, _, _, _, h, _ => absurd h (Nat.not_lt_zero _)
  | k, z + 1, i, h, h1, h2, h3 => by
    rw [g_X11_digest_31]
    unfold g_X11_digest_31b g_X11_mixed
    by_cases e : 3 ≤ i
    · rw [if_pos (show 3 ≤ nI i by simp (disch := omega) only [n_z1, n_z2, n_z3, n_z4, n_z5, n_z6, n_z7, n_z8, n_leL, n_leR, n_ltL, n_ltR, n_eqL, n_eqR, n_m1R, n_addL, n_addR, n_mulL, n_mulR, n_subR, n_subL, n_add, n_mul, n_neg, n_sub, n_le, n_lt, n_eq, nI_clamp, if_true, if_false, if_pos, if_neg, or_false, false_or, not_false_eq_true, not_true_eq_false]; omega), show k = 0 by omega, mx, hX]
    · rw [if_neg (show ¬ 3 ≤ nI i by simp (disch := omega) only [n_z1, n_z2, n_z3, n_z4, n_z5, n_z6, n_z7, n_z8, n_leL, n_leR, n_ltL, n_ltR, n_eqL, n_eqR, n_m1R, n_addL, n_addR, n_mulL, n_mulR, n_subR, n_subL, n_add, n_mul, n_neg, n_sub, n_le, n_lt, n_eq, nI_clamp, if_true, if_false, if_pos, if_neg, or_false, false_or, not_false_eq_true, not_true_eq_false]; omega)]
      obtain ⟨k, rfl⟩ : ∃ q, k = q + 1 := ⟨k - 1, by omega⟩
      simp (disch := omega) only [n_z1, n_z2, n_z3, n_z4, n_z5, n_z6, n_z7, n_z8, n_leL, n_leR, n_ltL, n_ltR, n_eqL, n_eqR, n_m1R, n_addL, n_addR, n_mulL, n_mulR, n_subR, n_subL, n_add, n_mul, n_neg, n_sub, n_le, n_lt, n_eq, nI_clamp, if_true, if_false, if_pos, if_neg, or_false, false_or, not_false_eq_true, not_true_eq_false, pb_some]
      rw [mx, Nat.zero_add]
      exact m_31 X hX k z (i + 1) _ (by omega) (by omega) (by omega)
theorem m_6 (cn : Nat → Int32) (hcn : ∀ k, k < 6 → g_X11_counted size w (nI k) = some (cn k)) (X : Int64 → Option Int64) (hX : ∀ h, g_X11_digest_31 size sg ma mb w bm am2 zF h 0 = X h) : ∀ (k z i : Nat) (h : Int64), 6 - i = k → k < z → i ≤ 6 → g_X11_digest_6 size sg ma mb w bm am2 z h (nI i) = X (mx cn i k h)
  | _, 0, _, _, _, h, _ => absurd h (Nat.not_lt_zero _)
  | k, z + 1, i, h, h1, h2, h3 => by
    rw [g_X11_digest_6]
    unfold g_X11_digest_6b g_X11_mixed
    by_cases e : 6 ≤ i
    · rw [if_pos (show 6 ≤ nI i by simp (disch := omega) only [n_z1, n_z2, n_z3, n_z4, n_z5, n_z6, n_z7, n_z8, n_leL, n_leR, n_ltL, n_ltR, n_eqL, n_eqR, n_m1R, n_addL, n_addR, n_mulL, n_mulR, n_subR, n_subL, n_add, n_mul, n_neg, n_sub, n_le, n_lt, n_eq, nI_clamp, if_true, if_false, if_pos, if_neg, or_false, false_or, not_false_eq_true, not_true_eq_false]; omega), show k = 0 by omega, mx, hX]
    · rw [if_neg (show ¬ 6 ≤ nI i by simp (disch := omega) only [n_z1, n_z2, n_z3, n_z4, n_z5, n_z6, n_z7, n_z8, n_leL, n_leR, n_ltL, n_ltR, n_eqL, n_eqR, n_m1R, n_addL, n_addR, n_mulL, n_mulR, n_subR, n_subL, n_add, n_mul, n_neg, n_sub, n_le, n_lt, n_eq, nI_clamp, if_true, if_false, if_pos, if_neg, or_false, false_or, not_false_eq_true, not_true_eq_false]; omega)]
      obtain ⟨k, rfl⟩ : ∃ q, k = q + 1 := ⟨k - 1, by omega⟩
      rw [hcn i (by omega), pb_some, pb_some, n_addR, mx]
      exact m_6 cn hcn X hX k z (i + 1) _ (by omega) (by omega) (by omega)
end
theorem zp_digest : zstep_digest Inv := by
  intro I Aa J V h _
  obtain ⟨hS, hT, hR, hI, hF, hc, hp⟩ := h
  have hS' := hS
  obtain ⟨np, nt, nd, ns, nr, hG, hC⟩ := hS
  obtain ⟨n, t1, t2, t3, t4⟩ := id hT
  obtain ⟨na, nb, f1, f2, f3, f4, f5, f6, f7⟩ := id hF
  have hb := hG.1
  obtain ⟨w3, w4, w5, w6, w7⟩ := hG.2.1
  obtain ⟨⟨s0, s1, s2, s3, s4⟩, c1, c2, c3, c4, c5, c6, c7⟩ := id hC
  obtain ⟨cn, hcn⟩ : ∃ cn : Nat → Int32, cn = fun k => if k = 0 then nI np else if k = 1 then nI nt else if k = 2 then nI nd else if k = 3 then nI ns else if k = 4 then nI n else nI nr := ⟨_, rfl⟩
  have xs : ∀ k, k < 6 → g_X10_sizeOf (I 0) (I 1) (I 2) (I 3) (I 10) (I 4) (nI k) = some (cn k) := by
    intro k hk
    rw [hcn, s0, s1, s2, s3, s4, t2]
    rcases (show k = 0 ∨ k = 1 ∨ k = 2 ∨ k = 3 ∨ k = 4 ∨ k = 5 by omega) with rfl | rfl | rfl | rfl | rfl | rfl <;> rfl
  have ms : ∀ k, k < 6 → g_X11_counted (I 38) (Aa 45) (nI k) = some (cn k) := by
    intro k hk
    rw [hcn, t3]
    rcases (show k = 0 ∨ k = 1 ∨ k = 2 ∨ k = 3 ∨ k = 4 ∨ k = 5 by omega) with rfl | rfl | rfl | rfl | rfl | rfl
    · exact congrArg some w3
    · exact congrArg some w4
    · exact congrArg some w5
    · exact congrArg some w6
    · rfl
    · exact congrArg some w7
  obtain ⟨F, hFd⟩ : ∃ F : Int64 → Int64, F = fun h => mF (Aa 26) (Aa 27) na nb (mx (Aa 4) 0 nr (mx (Aa 6) 0 5 (mx (Aa 3) 0 (2 * ns) (mx (Aa 2) 0 (3 * nd) (mx (Aa 1) 0 (3 * nt) (mx (Aa 0) 0 (2 * np) (mx (Aa 5) 0 3 h))))))) := ⟨_, rfl⟩
  have xd : g_X10_digest 10 48 24 20 40 (Aa 5) 2 (I 0) (Aa 0) 3 (I 1) (Aa 1) 3 (I 2) (Aa 2) 2 (I 3) (Aa 3) (Aa 6) 1 (I 4) (Aa 4) (Aa 26) (Aa 27) (I 10) = some (F (mx cn 0 6 701)) := by
    have lp : ∀ (k z i : Nat) (h : Int64), 6 - i = k → k < z → i ≤ 6 → g_X10_digest_6 10 48 24 20 40 (Aa 5) 2 (I 0) (Aa 0) 3 (I 1) (Aa 1) 3 (I 2) (Aa 2) 2 (I 3) (Aa 3) (Aa 6) 1 (I 4) (Aa 4) (Aa 26) (Aa 27) (I 10) z h (nI i) = some (F (mx cn i k h)) := by
      intro k
      induction k with
      | zero =>
        intro z i h h1 h2 h3
        obtain ⟨z, rfl⟩ : ∃ y, z = y + 1 := ⟨z - 1, by omega⟩
        rw [g_X10_digest_6]
        unfold g_X10_digest_6b g_X9_mixed
        rw [if_pos (show 5 < nI i by simp (disch := omega) only [n_z1, n_z2, n_z3, n_z4, n_z5, n_z6, n_z7, n_z8, n_leL, n_leR, n_ltL, n_ltR, n_eqL, n_eqR, n_m1R, n_addL, n_addR, n_mulL, n_mulR, n_subR, n_subL, n_add, n_mul, n_neg, n_sub, n_le, n_lt, n_eq, nI_clamp, if_true, if_false, if_pos, if_neg, or_false, false_or, not_false_eq_true, not_true_eq_false]; omega), x_wmix 3 (by omega), pb_some, x_rmix 10 np 2 (by omega) (by omega) (by omega) 2 _ rfl s0 (by omega), pb_some, x_rmix 48 nt 3 (by omega) (by omega) (by omega) 3 _ rfl s1 (by omega), pb_some, x_rmix 24 nd 3 (by omega) (by omega) (by omega) 3 _ rfl s2 (by omega), pb_some, x_rmix 20 ns 2 (by omega) (by omega) (by omega) 2 _ rfl s3 (by omega), pb_some, x_wmix 5 (by omega), pb_some, x_rmix 40 nr 1 (by omega) (by omega) (by omega) 1 _ rfl s4 (by omega), pb_some, pb_some, x_fmix f1 f2, pb_some, hFd, mx]
        rw [Nat.mul_comm np 2, Nat.mul_comm nt 3, Nat.mul_comm nd 3, Nat.mul_comm ns 2, Nat.mul_one]
      | succ k ih =>
        intro z i h h1 h2 h3
        obtain ⟨z, rfl⟩ : ∃ y, z = y + 1 := ⟨z - 1, by omega⟩
        rw [g_X10_digest_6]
        unfold g_X10_digest_6b
        rw [if_neg (show ¬ 5 < nI i by simp (disch := omega) only [n_z1, n_z2, n_z3, n_z4, n_z5, n_z6, n_z7, n_z8, n_leL, n_leR, n_ltL, n_ltR, n_eqL, n_eqR, n_m1R, n_addL, n_addR, n_mulL, n_mulR, n_subR, n_subL, n_add, n_mul, n_neg, n_sub, n_le, n_lt, n_eq, nI_clamp, if_true, if_false, if_pos, if_neg, or_false, false_or, not_false_eq_true, not_true_eq_false]; omega), xs i (by omega), pb_some, n_addR, mx]
        exact ih z (i + 1) _ (by omega) (by omega) (by omega)
    exact lp 6 zF 0 701 rfl (by decide) (by omega)
  have md : g_X11_digest (I 38) (I 39) (I 40) (I 41) (Aa 45) (Aa 50) (Aa 49) = some (F (mx cn 0 6 701)) := by
    have y1 := fun h => m_296 (size := I 38) (sg := I 39) (w := Aa 45) (bm := Aa 50) (am2 := Aa 49) w7 hb.2.2.2.2 f3 f4 f1.1 f2.1 nr zF 0 h rfl (by show _ < 65536; omega) (by omega)
    have y2 := fun h => m_270 (size := I 38) (sg := I 39) (ma := I 40) (mb := I 41) (w := Aa 45) (bm := Aa 50) (am2 := Aa 49) _ y1 5 zF 0 h rfl (by decide) (by omega)
    have y3 := fun h => m_222 (size := I 38) (sg := I 39) (ma := I 40) (mb := I 41) (w := Aa 45) (bm := Aa 50) (am2 := Aa 49) w6 hb.2.2.2.1 c6 _ y2 ns zF 0 h rfl (by show _ < 65536; omega) (by omega)
    have y4 := fun h => m_163 (size := I 38) (sg := I 39) (ma := I 40) (mb := I 41) (w := Aa 45) (bm := Aa 50) (am2 := Aa 49) w5 hb.2.2.1 c5 _ y3 nd zF 0 h rfl (by show _ < 65536; omega) (by omega)
    have y5 := fun h => m_104 (size := I 38) (sg := I 39) (ma := I 40) (mb := I 41) (w := Aa 45) (bm := Aa 50) (am2 := Aa 49) w4 hb.2.1 c4 _ y4 nt zF 0 h rfl (by show _ < 65536; omega) (by omega)
    have y6 := fun h => m_58 (size := I 38) (sg := I 39) (ma := I 40) (mb := I 41) (w := Aa 45) (bm := Aa 50) (am2 := Aa 49) w3 hb.1 c3 _ y5 np zF 0 h rfl (by show _ < 65536; omega) (by omega)
    have y7 := fun h => m_31 (size := I 38) (sg := I 39) (ma := I 40) (mb := I 41) (w := Aa 45) (bm := Aa 50) (am2 := Aa 49) _ y6 3 zF 0 h rfl (by decide) (by omega)
    have y8 := m_6 (size := I 38) (sg := I 39) (ma := I 40) (mb := I 41) (w := Aa 45) (bm := Aa 50) (am2 := Aa 49) cn ms _ y7 6 zF 0 701 rfl (by decide) (by omega)
    have y9 : g_X11_digest (I 38) (I 39) (I 40) (I 41) (Aa 45) (Aa 50) (Aa 49) = _ := y8
    rw [y9, hFd]
    dsimp only
    have z1 : ∀ h, mx (Aa 45) 0 3 h = mx (Aa 5) 0 3 h := fun h => mx_congr 3 0 h (fun j _ hj => (c1 j (by omega)).symm)
    have z2 : ∀ h, mx (fun j => Aa 45 (8 + j)) 0 5 h = mx (Aa 6) 0 5 h := fun h => mx_congr 5 0 h (fun j _ hj => (c2 j (by omega)).symm)
    have z3 : ∀ h, mx (fun j => Aa 45 (115 + j)) 0 nr h = mx (Aa 4) 0 nr h := fun h => mx_congr nr 0 h (fun j _ hj => (c7 j (by omega)).symm)
    have z4 : ∀ h, mx (Aa 49) 0 na h = mx (Aa 26) 0 na h := fun h => mx_congr na 0 h (fun j _ hj => f6 j (by omega))
    have z5 : ∀ h, mx (Aa 50) 0 nb h = mx (Aa 27) 0 nb h := fun h => mx_congr nb 0 h (fun j _ hj => f7 j (by omega))
    unfold mE mF
    rw [z4, z5, f5, z1, z2, z3]
  exact ⟨_, _, xd, md, rfl, hS', hT, hR, hI, hF, hc, hp⟩
