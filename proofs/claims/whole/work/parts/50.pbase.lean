/-! PURE PART: numbers alone. -/
theorem pb_some {α β : Type} (x : α) (f : α → Option β) : (some x).bind f = f x := rfl
theorem lg_lt0 (x y : Int64) : lg_cmp x y < 0 ↔ x < y := by
  unfold lg_cmp
  by_cases h1 : y < x
  · have h2 : ¬ x < y := by rw [Int64.lt_iff_toInt_lt] at h1 ⊢; omega
    simp [h1, h2]
  · by_cases h2 : x = y
    · subst h2; simp
    · have h3 : x < y := by
        rw [Int64.lt_iff_toInt_lt] at h1 ⊢
        have : x.toInt ≠ y.toInt := fun h => h2 (Int64.toInt_inj.mp h)
        omega
      simp [h1, h2, h3]
theorem lg_gt0 (x y : Int64) : 0 < lg_cmp x y ↔ y < x := by
  unfold lg_cmp
  by_cases h1 : y < x
  · simp [h1]
  · by_cases h2 : x = y
    · subst h2; simp
    · simp [h1, h2]
theorem lg_eq0 (x y : Int64) : lg_cmp x y = 0 ↔ x = y := by
  unfold lg_cmp
  by_cases h1 : y < x
  · have : x ≠ y := fun h => by subst h; rw [Int64.lt_iff_toInt_lt] at h1; omega
    simp [h1, this]
  · by_cases h2 : x = y
    · simp [h2]
    · simp [h1, h2]
/-- a truth as a number -/
theorem p_isIn (x a b : Int32) : g_X10_isIn x a b = some (if a.toInt ≤ x.toInt ∧ x.toInt ≤ b.toInt then 1 else 0) := by
  unfold g_X10_isIn
  simp only [Int32.lt_iff_toInt_lt]
  by_cases h1 : x.toInt < a.toInt
  · rw [if_pos h1, if_neg (by omega)]
  · rw [if_neg h1]
    by_cases h2 : b.toInt < x.toInt
    · rw [if_pos h2, if_neg (by omega)]
    · rw [if_neg h2, if_pos (by omega)]
theorem p_in (x : Int32) (a b : Int64) : g_X11_in x.toInt64 a b = some (if a.toInt ≤ x.toInt ∧ x.toInt ≤ b.toInt then 1 else 0) := by
  unfold g_X11_in
  simp only [lg_lt0, lg_gt0, Int64.lt_iff_toInt_lt, Int32.toInt_toInt64]
  by_cases h1 : x.toInt < a.toInt
  · rw [if_pos h1, if_neg (by omega)]
  · rw [if_neg h1]
    by_cases h2 : b.toInt < x.toInt
    · rw [if_pos h2, if_neg (by omega)]
    · rw [if_neg h2, if_pos (by omega)]
theorem p_refX (x : Int32) (R : Nat → Int32) (k : Nat) (hk : k < 3) (hx : x = -2 - nI k) : g_X10_refuse x R = some (x, upd R k (R k + 1)) := by
  subst hx
  rcases (show k = 0 ∨ k = 1 ∨ k = 2 by omega) with rfl | rfl | rfl <;> rfl
theorem p_refM (x : Int32) (R : Nat → Int32) (k : Nat) (hk : k < 3) (hx : x = -2 - nI k) : g_X11_refuse x R = some (x, upd R k (R k + 1)) := by
  subst hx
  rcases (show k = 0 ∨ k = 1 ∨ k = 2 by omega) with rfl | rfl | rfl <;> rfl
theorem p_changed (a b c d : Int32) : g_X10_changed a b c d = some (1, 1, 1, 1) := rfl
theorem e1_ : (1 : Int32) = nI 1 := by decide
theorem e2_ : (2 : Int32) = nI 2 := by decide
theorem e3_ : (3 : Int32) = nI 3 := by decide
theorem p_full {L : Int32} {lim k : Nat} (hL : L = nI lim) (hk : k < 2 ^ 31) (hl : lim < 2 ^ 31) : g_X7_isFull L (nI k) = some (if lim ≤ k then 1 else 0) := by
  unfold g_X7_isFull
  rw [hL]
  by_cases h : k < lim
  · rw [if_pos (nI_lt h hl), if_neg (by omega)]
  · rw [if_neg (nI_nlt (by omega) hk), if_pos (by omega)]
theorem nI_sub1 (k : Nat) : nI k + 1 - 1 = nI k := by
  rw [nI_1, nI_pred]
theorem p_add1 {N lim k : Nat} {L : Int32} {f : Nat → Int32} {a b c : Int32} (hL : L = nI lim) (hk : k < lim) (hl : lim ≤ 1000) (hN : lim ≤ N) (hN2 : N ≤ 1000) : g_X7_add N 1 L a b c (nI k) f = some (nI k, nI (k + 1), upd f k a) := by
  have m : nI k * 1 = nI k := by rw [e1_, pk_mul, Nat.mul_one]
  have h1 := nI_in (c := k) (N := N) (by omega) (by omega)
  have hf := p_full (k := k) hL (by omega) (by omega)
  rw [if_neg (show ¬ lim ≤ k by omega)] at hf
  unfold g_X7_add g_X7_add_47 g_X7_add_65
  rw [hf, pb_some, if_pos rfl, m, if_neg h1, if_pos (by decide), if_pos (by decide), nI_clamp (by omega), nI_1, nI_pred]
theorem p_add2 {N lim k : Nat} {L : Int32} {f : Nat → Int32} {a b c : Int32} (hL : L = nI lim) (hk : k < lim) (hl : lim ≤ 1000) (hN : 2 * lim ≤ N) (hN2 : N ≤ 1000) : g_X7_add N 2 L a b c (nI k) f = some (nI k, nI (k + 1), upd (upd f (2 * k) a) (2 * k + 1) b) := by
  have m : nI k * 2 = nI (2 * k) := by rw [e2_, pk_mul, Nat.mul_comm]
  have m1 : nI (2 * k) + 1 = nI (2 * k + 1) := nI_1 _
  have h1 := nI_in (c := 2 * k) (N := N) (by omega) (by omega)
  have h2 := nI_in (c := 2 * k + 1) (N := N) (by omega) (by omega)
  have hf := p_full (k := k) hL (by omega) (by omega)
  rw [if_neg (show ¬ lim ≤ k by omega)] at hf
  unfold g_X7_add g_X7_add_47 g_X7_add_65
  rw [hf, pb_some, if_pos rfl, m, if_neg h1, if_neg (by decide), m1, if_neg h2, if_pos (by decide), nI_clamp (by omega), nI_clamp (by omega), nI_1, nI_pred]
theorem p_add3 {N lim k : Nat} {L : Int32} {f : Nat → Int32} {a b c : Int32} (hL : L = nI lim) (hk : k < lim) (hl : lim ≤ 1000) (hN : 3 * lim ≤ N) (hN2 : N ≤ 1000) : g_X7_add N 3 L a b c (nI k) f = some (nI k, nI (k + 1), upd (upd (upd f (3 * k) a) (3 * k + 1) b) (3 * k + 2) c) := by
  have m : nI k * 3 = nI (3 * k) := by rw [e3_, pk_mul, Nat.mul_comm]
  have m1 : nI (3 * k) + 1 = nI (3 * k + 1) := nI_1 _
  have m2 : nI (3 * k) + 2 = nI (3 * k + 2) := by rw [e2_, nI_add]
  have h1 := nI_in (c := 3 * k) (N := N) (by omega) (by omega)
  have h2 := nI_in (c := 3 * k + 1) (N := N) (by omega) (by omega)
  have h3 := nI_in (c := 3 * k + 2) (N := N) (by omega) (by omega)
  have hf := p_full (k := k) hL (by omega) (by omega)
  rw [if_neg (show ¬ lim ≤ k by omega)] at hf
  unfold g_X7_add g_X7_add_47 g_X7_add_65
  rw [hf, pb_some, if_pos rfl, m, if_neg h1, if_neg (by decide), m1, if_neg h2, if_neg (by decide), m2, if_neg h3, nI_clamp (by omega), nI_clamp (by omega), nI_clamp (by omega), nI_1, nI_pred]
/-- a cell of a row that is there -/
theorem p_at {N n w k c : Nat} {W9 C9 : Int32} {f : Nat → Int32} (hW : W9 = nI w) (hC : C9 = nI c) (hk : k < n) (hc : c < w) (hw : w ≤ 3) (hn : n ≤ 1000) (hN : w * n ≤ N) (hN2 : N ≤ 1000) : g_X7_at N W9 (nI n) f (nI k) C9 = some (f (k * w + c)) := by
  subst hW; subst hC
  have hb : k * w + c < w * n := by
    have h1 : (k + 1) * w ≤ n * w := Nat.mul_le_mul_right w hk
    rw [Nat.add_mul, Nat.one_mul, Nat.mul_comm n w] at h1
    omega
  have hb2 : k * w ≤ 3000 := Nat.le_trans (Nat.mul_le_mul (show k ≤ 1000 by omega) hw) (by omega)
  have m : nI k * nI w + nI c = nI (k * w + c) := by rw [pk_mul, nI_add]
  have h1 := nI_in (c := k * w + c) (N := N) (by omega) (by omega)
  unfold g_X7_at
  rw [if_neg (nI_pos (by omega)), if_neg (nI_ge hk (by omega)), if_neg (nI_pos (by omega)), if_pos (nI_lt hc (by omega)), m, if_neg h1, nI_clamp (by omega)]
theorem x_told0 (s a : Int32) : g_X9_isAsTold s 0 0 a 0 = some (if 1 ≤ a.toInt ∧ a.toInt ≤ 4 then 1 else 0) := by
  simp [g_X9_isAsTold, g_X9_isAsTold_95, zWID, zLEA, zMOS, Int32.lt_iff_toInt_lt, Int32.le_iff_toInt_le]
  split <;> (try split) <;> (try split) <;> simp_all <;> omega
theorem x_told1 (s a : Int32) : g_X9_isAsTold s 1 0 a 0 = some (if 0 ≤ a.toInt ∧ a.toInt ≤ 1 then 1 else 0) := by
  simp [g_X9_isAsTold, g_X9_isAsTold_95, zWID, zLEA, zMOS, Int32.lt_iff_toInt_lt, Int32.le_iff_toInt_le]
  grind
theorem x_told2 (s a : Int32) : g_X9_isAsTold s 2 0 a 0 = some (if 0 ≤ a.toInt ∧ a.toInt ≤ 240 then 1 else 0) := by
  simp [g_X9_isAsTold, g_X9_isAsTold_95, zWID, zLEA, zMOS, Int32.lt_iff_toInt_lt, Int32.le_iff_toInt_le]
  grind
