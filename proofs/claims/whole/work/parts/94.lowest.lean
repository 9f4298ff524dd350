/-! NIGHTS: in lowest terms -/
def rv (p : Nat) : Nat → Nat → Nat → Nat × Nat
  | 0, m, a => (a, m)
  | v + 1, m, a => if a % p = 0 then rv p v m (a / p) else (a, p ^ (v + 1) * m)
theorem rv_snd (p : Nat) : ∀ v m a, ∃ j, j ≤ v ∧ (rv p v m a).2 = p ^ j * m
  | 0, m, a => ⟨0, Nat.le_refl 0, by rw [rv, Nat.pow_zero, Nat.one_mul]⟩
  | v + 1, m, a => by
    rw [rv]
    split
    · obtain ⟨j, h1, h2⟩ := rv_snd p v m (a / p)
      exact ⟨j, by omega, h2⟩
    · exact ⟨v + 1, Nat.le_refl _, rfl⟩
theorem rv_0 (p : Nat) : ∀ v m, rv p v m 0 = (0, m)
  | 0, m => rfl
  | v + 1, m => by rw [rv, Nat.zero_mod, if_pos rfl, Nat.zero_div, rv_0 p v m]
theorem rv_same (p : Nat) (hp : 0 < p) : ∀ v m, rv p v m (p ^ v * m) = (m, m)
  | 0, m => by rw [rv, Nat.pow_zero, Nat.one_mul]
  | v + 1, m => by
    have h : p ^ (v + 1) * m = p * (p ^ v * m) := by rw [Nat.pow_succ, Nat.mul_comm (p ^ v) p, Nat.mul_assoc]
    rw [rv, h, Nat.mul_mod_right, if_pos rfl, Nat.mul_div_cancel_left _ hp, rv_same p hp v m]
theorem pow_s (p v m : Nat) (hp : 0 < p) : p ^ (v + 1) * m % p = 0 ∧ p ^ (v + 1) * m / p = p ^ v * m := by
  have h : p ^ (v + 1) * m = p * (p ^ v * m) := by rw [Nat.pow_succ, Nat.mul_comm (p ^ v) p, Nat.mul_assoc]
  rw [h]
  exact ⟨Nat.mul_mod_right _ _, Nat.mul_div_cancel_left _ hp⟩
theorem two5 : ∀ j, 2 ^ j % 5 ≠ 0
  | 0 => by decide
  | j + 1 => by have := two5 j; rw [Nat.pow_succ]; omega
theorem five2 : ∀ j, 5 ^ j % 2 = 1
  | 0 => by decide
  | j + 1 => by have := five2 j; rw [Nat.pow_succ]; omega
theorem ten_25 (n : Nat) : 10 ^ n = 2 ^ n * 5 ^ n := by rw [← Nat.mul_pow]
theorem x_red2 {p n m : Nat} (hp : 2 ≤ p) (hp2 : p ≤ 10) (hn : n ≤ 60) : ∀ (v z : Nat) (f g : Nat → Int32) (a : Nat), v < z → v ≤ n → HX f a → HX g (p ^ v * m) → ∃ f' g', g_X2_reduce_2 (nI p) (nI n) z (nI (n - v)) f g = some (f', g') ∧ HX f' (rv p v m a).1 ∧ HX g' (rv p v m a).2
  | _, 0, _, _, _, h, _, _, _ => absurd h (Nat.not_lt_zero _)
  | 0, z + 1, f, g, a, h1, h2, h3, h4 => by
    rw [g_X2_reduce_2]
    unfold g_X2_reduce_2b
    rw [if_pos (show nI n ≤ nI (n - 0) by simp (disch := omega) only [n_z1, n_z2, n_z3, n_z4, n_z5, n_z6, n_z7, n_z8, n_leL, n_leR, n_ltL, n_ltR, n_eqL, n_eqR, n_m1R, n_addL, n_addR, n_mulL, n_mulR, n_subR, n_subL, n_add, n_mul, n_neg, n_sub, n_le, n_lt, n_eq, nI_clamp, if_true, if_false, if_pos, if_neg, or_false, false_or, not_false_eq_true, not_true_eq_false]; omega)]
    rw [Nat.pow_zero, Nat.one_mul] at h4
    exact ⟨f, g, rfl, h3, h4⟩
  | v + 1, z + 1, f, g, a, h1, h2, h3, h4 => by
    rw [g_X2_reduce_2]
    unfold g_X2_reduce_2b
    obtain ⟨d1, d2⟩ := pow_s p v m (by omega)
    rw [if_neg (show ¬ nI n ≤ nI (n - (v + 1)) by simp (disch := omega) only [n_z1, n_z2, n_z3, n_z4, n_z5, n_z6, n_z7, n_z8, n_leL, n_leR, n_ltL, n_ltR, n_eqL, n_eqR, n_m1R, n_addL, n_addR, n_mulL, n_mulR, n_subR, n_subL, n_add, n_mul, n_neg, n_sub, n_le, n_lt, n_eq, nI_clamp, if_true, if_false, if_pos, if_neg, or_false, false_or, not_false_eq_true, not_true_eq_false]; omega), x_isd (by omega) (by omega) h3, pb_some, rv]
    by_cases c : a % p = 0
    · rw [if_pos c, if_neg (show ¬ (1 : Int32) = 0 by decide), x_isd (by omega) (by omega) h4, pb_some, if_pos d1, if_neg (show ¬ (1 : Int32) = 0 by decide), if_pos c]
      obtain ⟨f1, q1, q2⟩ := x_div (s := p) (by omega) (by omega) h3
      obtain ⟨g1, q3, q4⟩ := x_div (s := p) (by omega) (by omega) h4
      rw [q1, pb_some, q3, pb_some, n_addR, show n - (v + 1) + 1 = n - v by omega]
      rw [d2] at q4
      exact x_red2 hp hp2 hn v z f1 g1 (a / p) (by omega) (by omega) q2 q4
    · rw [if_neg c, if_pos rfl, if_neg c]
      exact ⟨f, g, rfl, h3, h4⟩
theorem x_red {p n m : Nat} (hp : 2 ≤ p) (hp2 : p ≤ 10) (hn : n ≤ 60) {f g : Nat → Int32} {a : Nat} (h3 : HX f a) (h4 : HX g (p ^ n * m)) : ∃ f' g', g_X2_reduce (nI p) (nI n) f g = some (f', g') ∧ HX f' (rv p n m a).1 ∧ HX g' (rv p n m a).2 := by
  have := x_red2 hp hp2 hn n zF f g a (by show _ < 65536; omega) (Nat.le_refl n) h3 h4
  rw [Nat.sub_self] at this
  exact this
/-- both, in lowest terms -/
def lo (n a : Nat) : Nat × Nat := rv 5 n ((rv 2 n (5 ^ n) a).2 / 5 ^ n) (rv 2 n (5 ^ n) a).1
theorem lo_mid (n a : Nat) : ∃ j, (rv 2 n (5 ^ n) a).2 = 5 ^ n * 2 ^ j ∧ (rv 2 n (5 ^ n) a).2 / 5 ^ n = 2 ^ j := by
  obtain ⟨j, h1, h2⟩ := rv_snd 2 n (5 ^ n) a
  have h5 : 0 < 5 ^ n := Nat.pow_pos (by omega)
  refine ⟨j, by rw [h2, Nat.mul_comm], by rw [h2, Nat.mul_div_cancel _ h5]⟩
theorem lo_0 (n : Nat) : lo n 0 = (0, 1) := by
  have h5 : 0 < 5 ^ n := Nat.pow_pos (by omega)
  unfold lo
  rw [rv_0]
  show rv 5 n (5 ^ n / 5 ^ n) 0 = _
  rw [Nat.div_self h5, rv_0]
theorem lo_1 (n : Nat) : lo n (10 ^ n) = (1, 1) := by
  have h5 : 0 < 5 ^ n := Nat.pow_pos (by omega)
  unfold lo
  rw [ten_25, rv_same 2 (by omega)]
  show rv 5 n (5 ^ n / 5 ^ n) (5 ^ n) = _
  rw [Nat.div_self h5]
  have := rv_same 5 (by omega) n 1
  rw [Nat.mul_one] at this
  exact this
theorem x_lo {n a : Nat} (hn : n ≤ 60) {f g : Nat → Int32} (h3 : HX f a) (h4 : HX g (10 ^ n)) (tm : Nat → Int32) : ∃ f' g', ((g_X2_reduce 2 (nI n) f g).bind fun v7 => (g_X2_reduce 5 (nI n) v7.1 v7.2).bind fun v9 => some (v9.1, v9.2, tm)) = some (f', g', tm) ∧ HX f' (lo n a).1 ∧ HX g' (lo n a).2 := by
  rw [ten_25] at h4
  obtain ⟨f1, g1, q1, q2, q3⟩ := x_red (p := 2) (by omega) (by omega) hn h3 h4
  obtain ⟨j, j1, j2⟩ := lo_mid n a
  rw [j1] at q3
  obtain ⟨f2, g2, q4, q5, q6⟩ := x_red (p := 5) (by omega) (by omega) hn q2 q3
  have q1' : g_X2_reduce 2 (nI n) f g = _ := q1
  have q4' : g_X2_reduce 5 (nI n) f1 g1 = _ := q4
  refine ⟨f2, g2, ?_, ?_, ?_⟩
  · rw [q1', pb_some]
    dsimp only
    rw [q4', pb_some]
  · unfold lo; rw [j2]; exact q5
  · unfold lo; rw [j2]; exact q6
/-- what the chance is, before it is shared -/
def ch (n w c : Nat) : Nat := ab (10 - w) w n c (n + 1)
theorem bn_10 (n : Nat) : ∀ k, bn 0 10 n k = if k = n then 10 ^ n else 0 := by
  induction n with
  | zero => intro k; cases k with
    | zero => rfl
    | succ k => rfl
  | succ n ih =>
    intro k
    cases k with
    | zero => rw [bn, Nat.zero_mul, if_neg (by omega)]
    | succ k =>
      rw [bn, Nat.zero_mul, Nat.zero_add, ih k]
      by_cases e : k = n
      · rw [if_pos e, if_pos (by omega), Nat.pow_succ, Nat.mul_comm]
      · rw [if_neg e, if_neg (by omega)]
theorem ch_10 (n c : Nat) : ch n 10 c = if c ≤ n then 10 ^ n else 0 := by
  have h0 : ∀ h, h ≤ n → ab 0 10 n c h = 0 := by
    intro h
    induction h with
    | zero => intro _; rfl
    | succ h ih =>
      intro hh
      rw [ab, ih (by omega), bn_10, if_neg (show ¬ h = n by omega), Nat.add_zero, ite_self]
  unfold ch
  rw [show 10 - 10 = 0 from rfl, ab, h0 n (Nat.le_refl n), bn_10, if_pos rfl, Nat.zero_add]
theorem x_chance {n w c : Nat} (hn : n ≤ 60) (hw : w ≤ 10) (hc : c ≤ 60) (al bl tm : Nat → Int32) : ∃ al' bl' tm', g_X2_toChance (nI n) (nI w) (nI c) al bl tm = some (al', bl', tm') ∧ HX al' (lo n (ch n w c)).1 ∧ HX bl' (lo n (ch n w c)).2 := by
  unfold g_X2_toChance g_X2_toChance_36
  obtain ⟨a0, a1, a2⟩ := x_become (v := 0) (by omega) al
  obtain ⟨b0, b1, b2⟩ := x_become (v := 1) (by omega) bl
  have a1' : g_X0_become 0 al = _ := a1
  have b1' : g_X0_become 1 bl = _ := b1
  rw [a1', pb_some, b1', pb_some]
  by_cases e : w < 10
  · obtain ⟨t0, t1, t2⟩ := x_become (v := 1) (by omega) tm
    have t1' : g_X0_become 1 tm = _ := t1
    rw [if_pos (show nI w < 10 by simp (disch := omega) only [n_z1, n_z2, n_z3, n_z4, n_z5, n_z6, n_z7, n_z8, n_leL, n_leR, n_ltL, n_ltR, n_eqL, n_eqR, n_m1R, n_addL, n_addR, n_mulL, n_mulR, n_subR, n_subL, n_add, n_mul, n_neg, n_sub, n_le, n_lt, n_eq, nI_clamp, if_true, if_false, if_pos, if_neg, or_false, false_or, not_false_eq_true, not_true_eq_false]; omega), t1', pb_some, show 10 - nI w = nI (10 - w) by simp (disch := omega) only [n_z1, n_z2, n_z3, n_z4, n_z5, n_z6, n_z7, n_z8, n_leL, n_leR, n_ltL, n_ltR, n_eqL, n_eqR, n_m1R, n_addL, n_addR, n_mulL, n_mulR, n_subR, n_subL, n_add, n_mul, n_neg, n_sub, n_le, n_lt, n_eq, nI_clamp, if_true, if_false, if_pos, if_neg, or_false, false_or, not_false_eq_true, not_true_eq_false]]
    obtain ⟨al', bl', tm', q1, q2, q3⟩ := x_57 hn e hc a0 a2 n zF 0 b0 t0 rfl (by show _ < 65536; omega) (by omega) b2 t2
    have q1' : g_X2_toChance_57 (nI n) (nI w) (nI c) zF (nI (10 - w)) 0 a0 b0 t0 = _ := q1
    obtain ⟨f', g', q4, q5, q6⟩ := x_lo hn q2 q3 tm'
    rw [q1', q4]
    exact ⟨f', g', tm', rfl, q5, q6⟩
  · have hw10 : w = 10 := by omega
    subst hw10
    rw [if_neg (show ¬ nI 10 < 10 by decide)]
    obtain ⟨c0, c1, c2⟩ := x_become (v := 0) (by omega) a0
    obtain ⟨d0, d1, d2⟩ := x_become (v := 1) (by omega) a0
    have c1' : g_X0_become 0 a0 = _ := c1
    have d1' : g_X0_become 1 a0 = _ := d1
    rw [ch_10, c1', d1', pb_some, pb_some]
    by_cases e2 : n < c
    · rw [if_pos (show nI n < nI c by simp (disch := omega) only [n_z1, n_z2, n_z3, n_z4, n_z5, n_z6, n_z7, n_z8, n_leL, n_leR, n_ltL, n_ltR, n_eqL, n_eqR, n_m1R, n_addL, n_addR, n_mulL, n_mulR, n_subR, n_subL, n_add, n_mul, n_neg, n_sub, n_le, n_lt, n_eq, nI_clamp, if_true, if_false, if_pos, if_neg, or_false, false_or, not_false_eq_true, not_true_eq_false]; omega), if_neg (by omega), lo_0]
      exact ⟨_, _, _, rfl, c2, b2⟩
    · rw [if_neg (show ¬ nI n < nI c by simp (disch := omega) only [n_z1, n_z2, n_z3, n_z4, n_z5, n_z6, n_z7, n_z8, n_leL, n_leR, n_ltL, n_ltR, n_eqL, n_eqR, n_m1R, n_addL, n_addR, n_mulL, n_mulR, n_subR, n_subL, n_add, n_mul, n_neg, n_sub, n_le, n_lt, n_eq, nI_clamp, if_true, if_false, if_pos, if_neg, or_false, false_or, not_false_eq_true, not_true_eq_false]; omega), if_pos (by omega), lo_1]
      exact ⟨_, _, _, rfl, d2, b2⟩
