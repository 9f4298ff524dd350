/-! NIGHTS: the odds; the class's chance -/
def bn (s w : Nat) : Nat → Nat → Nat
  | 0, 0 => 1
  | 0, _ + 1 => 0
  | m + 1, 0 => s * bn s w m 0
  | m + 1, k + 1 => s * bn s w m (k + 1) + w * bn s w m k
theorem bn_hi (s w : Nat) : ∀ m k, m < k → bn s w m k = 0
  | 0, 0, h => absurd h (Nat.lt_irrefl 0)
  | 0, k + 1, _ => by rw [bn]
  | m + 1, 0, h => absurd h (Nat.not_lt_zero _)
  | m + 1, k + 1, h => by rw [bn, bn_hi s w m (k + 1) (by omega), bn_hi s w m k (by omega)]; omega
theorem bn_0 (s w : Nat) : ∀ m, bn s w m 0 = s ^ m
  | 0 => by rw [bn, Nat.pow_zero]
  | m + 1 => by rw [bn, bn_0 s w m, Nat.pow_succ, Nat.mul_comm]
theorem bn_le (s w : Nat) (h : s + w ≤ 10) : ∀ m k, bn s w m k ≤ 10 ^ m
  | 0, 0 => by rw [bn]; exact Nat.le_refl _
  | 0, k + 1 => by rw [bn]; omega
  | m + 1, 0 => by
    rw [bn, Nat.pow_succ, Nat.mul_comm _ 10]
    exact Nat.mul_le_mul (by omega) (bn_le s w h m 0)
  | m + 1, k + 1 => by
    have h1 : s * bn s w m (k + 1) ≤ s * 10 ^ m := Nat.mul_le_mul_left s (bn_le s w h m (k + 1))
    have h2 : w * bn s w m k ≤ w * 10 ^ m := Nat.mul_le_mul_left w (bn_le s w h m k)
    have h3 : (s + w) * 10 ^ m ≤ 10 * 10 ^ m := Nat.mul_le_mul_right _ h
    rw [bn, Nat.pow_succ, Nat.mul_comm _ 10]
    rw [Nat.add_mul] at h3
    omega
theorem bn_step (s w : Nat) : ∀ m h d, h + d = m → d * w * bn s w m h = (h + 1) * s * bn s w m (h + 1)
  | 0, h, d, e => by
    have e1 : h = 0 := by omega
    have e2 : d = 0 := by omega
    subst e1 e2
    rw [bn_hi s w 0 1 (by omega)]; omega
  | m + 1, 0, d, e => by
    have e2 : d = m + 1 := by omega
    subst e2
    have ih := bn_step s w m 0 m (by omega)
    rw [bn, bn]
    generalize bn s w m 0 = X at ih ⊢
    generalize bn s w m (0 + 1) = Y at ih ⊢
    grind
  | m + 1, h + 1, 0, e => by
    rw [bn_hi s w (m + 1) (h + 1 + 1) (by omega)]; omega
  | m + 1, h + 1, d + 1, e => by
    have i1 := bn_step s w m h (d + 1) (by omega)
    have i2 := bn_step s w m (h + 1) d (by omega)
    rw [bn, bn]
    generalize bn s w m h = X at i1 ⊢
    generalize bn s w m (h + 1) = Y at i1 i2 ⊢
    generalize bn s w m (h + 1 + 1) = Z at i2 ⊢
    grind
/-- the chances from so many on, added up below a number -/
def ab (s w n c : Nat) : Nat → Nat
  | 0 => 0
  | h + 1 => if c ≤ h then ab s w n c h + bn s w n h else ab s w n c h
theorem ab_0 (s w n c : Nat) : ∀ h, h ≤ c → ab s w n c h = 0
  | 0, _ => rfl
  | h + 1, hh => by rw [ab, if_neg (by omega), ab_0 s w n c h (by omega)]
theorem ab_le (s w n c : Nat) (hs : s + w ≤ 10) : ∀ h, ab s w n c h ≤ h * 10 ^ n
  | 0 => by rw [ab]; omega
  | h + 1 => by
    have h1 := ab_le s w n c hs h
    have h2 := bn_le s w hs n h
    rw [ab, Nat.add_mul]
    split <;> omega
theorem p60 {n : Nat} (h : n ≤ 60) : 10 ^ n ≤ 10 ^ 60 := Nat.pow_le_pow_right (by omega) h
theorem P8a : 10 ^ 60 * 1000000 < PB 8 := by decide
theorem x_90 {n w c : Nat} (hn : n ≤ 60) (hw : w < 10) (hc : c ≤ 60) (b0 : Nat → Int32) : ∀ (k z h : Nat) (al tm : Nat → Int32), n + 1 - h = k → k < z → h ≤ n + 1 → HX al (ab (10 - w) w n c h) → HX tm (bn (10 - w) w n h) →
    ∃ al' tm', g_X2_toChance_90 (nI n) (nI w) (nI c) z (nI (10 - w)) (nI h) al b0 tm = ((g_X2_reduce 2 (nI n) al' b0).bind fun v7 => (g_X2_reduce 5 (nI n) v7.1 v7.2).bind fun v9 => some (v9.1, v9.2, tm')) ∧ HX al' (ab (10 - w) w n c (n + 1))
  | _, 0, _, _, _, _, h, _, _, _ => absurd h (Nat.not_lt_zero _)
  | k, z + 1, h, al, tm, h1, h2, h3, h4, h5 => by
    have hp := p60 hn
    have hP := P8a
    rw [g_X2_toChance_90]
    unfold g_X2_toChance_90b
    by_cases e : n < h
    · rw [if_pos (show nI n < nI h by simp (disch := omega) only [n_z1, n_z2, n_z3, n_z4, n_z5, n_z6, n_z7, n_z8, n_leL, n_leR, n_ltL, n_ltR, n_eqL, n_eqR, n_m1R, n_addL, n_addR, n_mulL, n_mulR, n_subR, n_subL, n_add, n_mul, n_neg, n_sub, n_le, n_lt, n_eq, nI_clamp, if_true, if_false, if_pos, if_neg, or_false, false_or, not_false_eq_true, not_true_eq_false]; omega)]
      rw [show h = n + 1 by omega] at h4
      exact ⟨al, tm, rfl, h4⟩
    · rw [if_neg (show ¬ nI n < nI h by simp (disch := omega) only [n_z1, n_z2, n_z3, n_z4, n_z5, n_z6, n_z7, n_z8, n_leL, n_leR, n_ltL, n_ltR, n_eqL, n_eqR, n_m1R, n_addL, n_addR, n_mulL, n_mulR, n_subR, n_subL, n_add, n_mul, n_neg, n_sub, n_le, n_lt, n_eq, nI_clamp, if_true, if_false, if_pos, if_neg, or_false, false_or, not_false_eq_true, not_true_eq_false]; omega)]
      have hb := bn_le (10 - w) w (by omega) n h
      have hst := bn_step (10 - w) w n h (n - h) (by omega)
      have hnw : (n - h) * w ≤ 60 * 10 := Nat.mul_le_mul (by omega) (by omega)
      have hsw : (h + 1) * (10 - w) ≤ 61 * 10 := Nat.mul_le_mul (by omega) (by omega)
      have hsw1 : 1 * 1 ≤ (h + 1) * (10 - w) := Nat.mul_le_mul (by omega) (by omega)
      have go : ∀ al1, HX al1 (ab (10 - w) w n c (h + 1)) → ∃ al' tm', g_X2_toChance_113 (nI n) (nI w) (nI c) (g_X2_toChance_90 (nI n) (nI w) (nI c) z) (nI (10 - w)) (nI h) al1 b0 tm = ((g_X2_reduce 2 (nI n) al' b0).bind fun v7 => (g_X2_reduce 5 (nI n) v7.1 v7.2).bind fun v9 => some (v9.1, v9.2, tm')) ∧ HX al' (ab (10 - w) w n c (n + 1)) := by
        intro al1 hal1
        unfold g_X2_toChance_113
        have hbb : bn (10 - w) w n h * ((n - h) * w) ≤ 10 ^ 60 * 1000000 := Nat.mul_le_mul (Nat.le_trans hb hp) (by omega)
        obtain ⟨t1, q1, q2⟩ := x_times (s := (n - h) * w) (by omega) h5 (by omega)
        obtain ⟨t2, q3, q4⟩ := x_div (s := (h + 1) * (10 - w)) (by omega) (by omega) q2
        have e1 : (nI n - nI h) * nI w = nI ((n - h) * w) := by simp (disch := omega) only [n_z1, n_z2, n_z3, n_z4, n_z5, n_z6, n_z7, n_z8, n_leL, n_leR, n_ltL, n_ltR, n_eqL, n_eqR, n_m1R, n_addL, n_addR, n_mulL, n_mulR, n_subR, n_subL, n_add, n_mul, n_neg, n_sub, n_le, n_lt, n_eq, nI_clamp, if_true, if_false, if_pos, if_neg, or_false, false_or, not_false_eq_true, not_true_eq_false]
        have e2 : (nI h + 1) * nI (10 - w) = nI ((h + 1) * (10 - w)) := by simp (disch := omega) only [n_z1, n_z2, n_z3, n_z4, n_z5, n_z6, n_z7, n_z8, n_leL, n_leR, n_ltL, n_ltR, n_eqL, n_eqR, n_m1R, n_addL, n_addR, n_mulL, n_mulR, n_subR, n_subL, n_add, n_mul, n_neg, n_sub, n_le, n_lt, n_eq, nI_clamp, if_true, if_false, if_pos, if_neg, or_false, false_or, not_false_eq_true, not_true_eq_false]
        rw [e1, e2, q1, pb_some, q3, pb_some, n_addR]
        have e3 : bn (10 - w) w n h * ((n - h) * w) / ((h + 1) * (10 - w)) = bn (10 - w) w n (h + 1) := by
          rw [Nat.mul_comm, hst, Nat.mul_div_cancel_left _ (by omega)]
        rw [e3] at q4
        exact x_90 hn hw hc b0 (k - 1) z (h + 1) al1 t2 (by omega) (by omega) (by omega) hal1 q4
      by_cases e2 : h < c
      · rw [if_pos (show nI h < nI c by simp (disch := omega) only [n_z1, n_z2, n_z3, n_z4, n_z5, n_z6, n_z7, n_z8, n_leL, n_leR, n_ltL, n_ltR, n_eqL, n_eqR, n_m1R, n_addL, n_addR, n_mulL, n_mulR, n_subR, n_subL, n_add, n_mul, n_neg, n_sub, n_le, n_lt, n_eq, nI_clamp, if_true, if_false, if_pos, if_neg, or_false, false_or, not_false_eq_true, not_true_eq_false]; omega)]
        exact go al (by rw [ab, if_neg (by omega)]; exact h4)
      · rw [if_neg (show ¬ nI h < nI c by simp (disch := omega) only [n_z1, n_z2, n_z3, n_z4, n_z5, n_z6, n_z7, n_z8, n_leL, n_leR, n_ltL, n_ltR, n_eqL, n_eqR, n_m1R, n_addL, n_addR, n_mulL, n_mulR, n_subR, n_subL, n_add, n_mul, n_neg, n_sub, n_le, n_lt, n_eq, nI_clamp, if_true, if_false, if_pos, if_neg, or_false, false_or, not_false_eq_true, not_true_eq_false]; omega)]
        have ha := ab_le (10 - w) w n c (by omega) h
        have ha2 : h * 10 ^ n ≤ 60 * 10 ^ 60 := Nat.mul_le_mul (by omega) hp
        obtain ⟨al1, q1, q2⟩ := x_plus h4 h5 (by omega)
        rw [q1, pb_some]
        exact go al1 (by rw [ab, if_pos (by omega)]; exact q2)
theorem x_57 {n w c : Nat} (hn : n ≤ 60) (hw : w < 10) (hc : c ≤ 60) (al : Nat → Int32) (hal : HX al 0) : ∀ (k z i : Nat) (bl tm : Nat → Int32), n - i = k → k < z → i ≤ n → HX bl (10 ^ i) → HX tm ((10 - w) ^ i) →
    ∃ al' bl' tm', g_X2_toChance_57 (nI n) (nI w) (nI c) z (nI (10 - w)) (nI i) al bl tm = ((g_X2_reduce 2 (nI n) al' bl').bind fun v7 => (g_X2_reduce 5 (nI n) v7.1 v7.2).bind fun v9 => some (v9.1, v9.2, tm')) ∧ HX al' (ab (10 - w) w n c (n + 1)) ∧ HX bl' (10 ^ n)
  | _, 0, _, _, _, _, h, _, _, _ => absurd h (Nat.not_lt_zero _)
  | k, z + 1, i, bl, tm, h1, h2, h3, h4, h5 => by
    have hP := P8a
    rw [g_X2_toChance_57]
    unfold g_X2_toChance_57b
    by_cases e : n ≤ i
    · rw [if_pos (show nI n ≤ nI i by simp (disch := omega) only [n_z1, n_z2, n_z3, n_z4, n_z5, n_z6, n_z7, n_z8, n_leL, n_leR, n_ltL, n_ltR, n_eqL, n_eqR, n_m1R, n_addL, n_addR, n_mulL, n_mulR, n_subR, n_subL, n_add, n_mul, n_neg, n_sub, n_le, n_lt, n_eq, nI_clamp, if_true, if_false, if_pos, if_neg, or_false, false_or, not_false_eq_true, not_true_eq_false]; omega)]
      have hi : i = n := by omega
      rw [hi] at h4 h5
      obtain ⟨al', tm', q1, q2⟩ := x_90 (c := c) hn hw hc bl (n + 1) zF 0 al tm rfl (by show _ < 65536; omega) (by omega) (by rw [ab_0 _ _ _ _ 0 (by omega)]; exact hal) (by rw [bn_0]; exact h5)
      exact ⟨al', bl, tm', q1, q2, h4⟩
    · rw [if_neg (show ¬ nI n ≤ nI i by simp (disch := omega) only [n_z1, n_z2, n_z3, n_z4, n_z5, n_z6, n_z7, n_z8, n_leL, n_leR, n_ltL, n_ltR, n_eqL, n_eqR, n_m1R, n_addL, n_addR, n_mulL, n_mulR, n_subR, n_subL, n_add, n_mul, n_neg, n_sub, n_le, n_lt, n_eq, nI_clamp, if_true, if_false, if_pos, if_neg, or_false, false_or, not_false_eq_true, not_true_eq_false]; omega)]
      have p1 : 10 ^ (i + 1) ≤ 10 ^ 60 := p60 (by omega)
      have p2 : (10 - w) ^ (i + 1) ≤ 10 ^ (i + 1) := Nat.pow_le_pow_left (by omega) _
      have r1 := p1
      have r2 := p2
      rw [Nat.pow_succ] at r1
      rw [Nat.pow_succ, Nat.pow_succ] at r2
      obtain ⟨b1, q1, q2⟩ := x_times (s := 10) (by omega) h4 (by omega)
      obtain ⟨t1, q3, q4⟩ := x_times (s := 10 - w) (by omega) h5 (by omega)
      have q1' : g_X0_times 10 bl = some b1 := q1
      rw [q1', pb_some, q3, pb_some, n_addR]
      rw [← Nat.pow_succ] at q2 q4
      exact x_57 hn hw hc al hal (k - 1) z (i + 1) b1 t1 (by omega) (by omega) (by omega) q2 q4
