/-! NIGHTS: long numbers in limbs, both sides -/
def HX (f : Nat → Int32) (v : Nat) : Prop := v < PB 8 ∧ ∀ i, i < 8 → f i = nI (dg v i)
def HM (b : Nat → Int64) (k v : Nat) : Prop := v < PB 8 ∧ ∀ i, i < 8 → b (8 * k + i) = nL (dg v i)
theorem x_times2 {s v : Nat} (hs : s ≤ 1000000) : ∀ (k z i : Nat) (f : Nat → Int32), 8 - i = k → k < z → i ≤ 8 → (∀ j, j < 8 → f j = nI (if j < i then dg (s * v + 0 * 0) j else dg v j)) → ∃ f', g_X0_times_5 (nI s) z (nL (cry s v 0 0 i)) (nI i) f = some f' ∧ ∀ j, j < 8 → f' j = nI (dg (s * v + 0 * 0) j)
  | _, 0, _, _, _, h, _, _ => absurd h (Nat.not_lt_zero _)
  | k, z + 1, i, f, h1, h2, h3, h4 => by
    rw [g_X0_times_5]
    unfold g_X0_times_5b
    by_cases e : 8 ≤ i
    · rw [if_pos (show 8 ≤ nI i by simp (disch := omega) only [n_z1, n_z2, n_z3, n_z4, n_z5, n_z6, n_z7, n_z8, n_leL, n_leR, n_ltL, n_ltR, n_eqL, n_eqR, n_m1R, n_addL, n_addR, n_mulL, n_mulR, n_subR, n_subL, n_add, n_mul, n_neg, n_sub, n_le, n_lt, n_eq, nI_clamp, if_true, if_false, if_pos, if_neg, or_false, false_or, not_false_eq_true, not_true_eq_false]; omega)]
      exact ⟨f, rfl, fun j hj => by rw [h4 j hj, if_pos (by omega)]⟩
    · rw [if_neg (show ¬ 8 ≤ nI i by simp (disch := omega) only [n_z1, n_z2, n_z3, n_z4, n_z5, n_z6, n_z7, n_z8, n_leL, n_leR, n_ltL, n_ltR, n_eqL, n_eqR, n_m1R, n_addL, n_addR, n_mulL, n_mulR, n_subR, n_subL, n_add, n_mul, n_neg, n_sub, n_le, n_lt, n_eq, nI_clamp, if_true, if_false, if_pos, if_neg, or_false, false_or, not_false_eq_true, not_true_eq_false]; omega)]
      simp (disch := omega) only [n_z1, n_z2, n_z3, n_z4, n_z5, n_z6, n_z7, n_z8, n_leL, n_leR, n_ltL, n_ltR, n_eqL, n_eqR, n_m1R, n_addL, n_addR, n_mulL, n_mulR, n_subR, n_subL, n_add, n_mul, n_neg, n_sub, n_le, n_lt, n_eq, nI_clamp, if_true, if_false, if_pos, if_neg, or_false, false_or, not_false_eq_true, not_true_eq_false]
      have hd := dg_lt v i
      have hc := cry_le s v 0 0 i
      have hm : s * dg v i ≤ 1000000 * 1073741824 := Nat.mul_le_mul hs (Nat.le_of_lt hd)
      have he : dg v i * s = s * dg v i + 0 * dg 0 i := by rw [Nat.zero_mul, Nat.add_zero, Nat.mul_comm]
      rw [h4 i (by omega), if_neg (by omega), nL_n (by omega), nL_n (by omega), nL_mul, nL_add, he, nL_shr (by rw [Nat.zero_mul]; omega), nL_and (by rw [Nat.zero_mul]; omega), nL_i, ← cry_s, ← cry_d]
      refine x_times2 hs (k - 1) z (i + 1) _ (by omega) (by omega) (by omega) (fun j hj => ?_)
      rw [upd_eq]
      by_cases c : j = i
      · rw [if_pos c, if_pos (by omega), c]
      · rw [if_neg c, h4 j hj]
        by_cases c2 : j < i
        · rw [if_pos c2, if_pos (by omega)]
        · rw [if_neg c2, if_neg (by omega)]
theorem x_times {s v : Nat} {f : Nat → Int32} (hs : s ≤ 1000000) (h : HX f v) (hb : v * s < PB 8) : ∃ f', g_X0_times (nI s) f = some f' ∧ HX f' (v * s) := by
  obtain ⟨f', q1, q2⟩ := x_times2 (v := v) hs 8 zF 0 f rfl (by decide) (by omega) (fun j hj => by rw [if_neg (by omega)]; exact h.2 j hj)
  rw [cry_0] at q1
  refine ⟨f', q1, hb, fun i hi => ?_⟩
  rw [q2 i hi, Nat.zero_mul, Nat.add_zero, Nat.mul_comm]
theorem x_plus2 {u v : Nat} {g : Nat → Int32} (hg : ∀ j, j < 8 → g j = nI (dg u j)) : ∀ (k z i : Nat) (f : Nat → Int32), 8 - i = k → k < z → i ≤ 8 → (∀ j, j < 8 → f j = nI (if j < i then dg (1 * v + 1 * u) j else dg v j)) → ∃ f', g_X0_plus_10 g z (nL (cry 1 v 1 u i)) (nI i) f = some f' ∧ ∀ j, j < 8 → f' j = nI (dg (1 * v + 1 * u) j)
  | _, 0, _, _, _, h, _, _ => absurd h (Nat.not_lt_zero _)
  | k, z + 1, i, f, h1, h2, h3, h4 => by
    rw [g_X0_plus_10]
    unfold g_X0_plus_10b
    by_cases e : 8 ≤ i
    · rw [if_pos (show 8 ≤ nI i by simp (disch := omega) only [n_z1, n_z2, n_z3, n_z4, n_z5, n_z6, n_z7, n_z8, n_leL, n_leR, n_ltL, n_ltR, n_eqL, n_eqR, n_m1R, n_addL, n_addR, n_mulL, n_mulR, n_subR, n_subL, n_add, n_mul, n_neg, n_sub, n_le, n_lt, n_eq, nI_clamp, if_true, if_false, if_pos, if_neg, or_false, false_or, not_false_eq_true, not_true_eq_false]; omega)]
      exact ⟨f, rfl, fun j hj => by rw [h4 j hj, if_pos (by omega)]⟩
    · rw [if_neg (show ¬ 8 ≤ nI i by simp (disch := omega) only [n_z1, n_z2, n_z3, n_z4, n_z5, n_z6, n_z7, n_z8, n_leL, n_leR, n_ltL, n_ltR, n_eqL, n_eqR, n_m1R, n_addL, n_addR, n_mulL, n_mulR, n_subR, n_subL, n_add, n_mul, n_neg, n_sub, n_le, n_lt, n_eq, nI_clamp, if_true, if_false, if_pos, if_neg, or_false, false_or, not_false_eq_true, not_true_eq_false]; omega)]
      simp (disch := omega) only [n_z1, n_z2, n_z3, n_z4, n_z5, n_z6, n_z7, n_z8, n_leL, n_leR, n_ltL, n_ltR, n_eqL, n_eqR, n_m1R, n_addL, n_addR, n_mulL, n_mulR, n_subR, n_subL, n_add, n_mul, n_neg, n_sub, n_le, n_lt, n_eq, nI_clamp, if_true, if_false, if_pos, if_neg, or_false, false_or, not_false_eq_true, not_true_eq_false]
      have hd := dg_lt v i
      have hd2 := dg_lt u i
      have hc := cry_le 1 v 1 u i
      have he : dg v i + dg u i = 1 * dg v i + 1 * dg u i := by omega
      rw [h4 i (by omega), if_neg (by omega), hg i (by omega), nL_n (by omega), nL_n (by omega), nL_add, nL_add, he, nL_shr (by omega), nL_and (by omega), nL_i, ← cry_s, ← cry_d]
      refine x_plus2 hg (k - 1) z (i + 1) _ (by omega) (by omega) (by omega) (fun j hj => ?_)
      rw [upd_eq]
      by_cases c : j = i
      · rw [if_pos c, if_pos (by omega), c]
      · rw [if_neg c, h4 j hj]
        by_cases c2 : j < i
        · rw [if_pos c2, if_pos (by omega)]
        · rw [if_neg c2, if_neg (by omega)]
theorem x_plus {u v : Nat} {f g : Nat → Int32} (h : HX f v) (hg : HX g u) (hb : v + u < PB 8) : ∃ f', g_X0_plus g f = some f' ∧ HX f' (v + u) := by
  obtain ⟨f', q1, q2⟩ := x_plus2 (v := v) hg.2 8 zF 0 f rfl (by decide) (by omega) (fun j hj => by rw [if_neg (by omega)]; exact h.2 j hj)
  rw [cry_0] at q1
  refine ⟨f', q1, hb, fun i hi => ?_⟩
  rw [q2 i hi, Nat.one_mul, Nat.one_mul]
theorem nL_ne0 {s : Nat} (h0 : 0 < s) (h : s < 2 ^ 63) : ¬ nL s = 0 := by
  rw [show (0 : Int64) = nL 0 from rfl, nL_eq h (by omega)]; omega
theorem x_div2 {s v : Nat} (h0 : 0 < s) (hs : s ≤ 1000000) : ∀ (j z : Nat) (f : Nat → Int32), j < z → j ≤ 8 → (∀ i, i < 8 → f i = nI (if j ≤ i then dg (v / s) i else dg v i)) → ∃ f', g_X0_divide_6 (nI s) z (nL (v / PB j % s)) (nI j - 1) f = some f' ∧ ∀ i, i < 8 → f' i = nI (dg (v / s) i)
  | _, 0, _, h, _, _ => absurd h (Nat.not_lt_zero _)
  | 0, z + 1, f, h1, h2, h3 => by
    rw [g_X0_divide_6]
    unfold g_X0_divide_6b
    rw [if_pos (by decide)]
    exact ⟨f, rfl, fun i hi => by rw [h3 i hi, if_pos (by omega)]⟩
  | j + 1, z + 1, f, h1, h2, h3 => by
    rw [g_X0_divide_6]
    unfold g_X0_divide_6b
    have hd := dg_lt v j
    have hr := Nat.mod_lt (v / PB (j + 1)) h0
    rw [n_pred (show 0 < j + 1 by omega), Nat.add_sub_cancel, if_neg (nI_pos (show j < 2 ^ 31 by omega)), if_neg (show ¬ nI s ≤ 0 by simp (disch := omega) only [n_z1, n_z2, n_z3, n_z4, n_z5, n_z6, n_z7, n_z8, n_leL, n_leR, n_ltL, n_ltR, n_eqL, n_eqR, n_m1R, n_addL, n_addR, n_mulL, n_mulR, n_subR, n_subL, n_add, n_mul, n_neg, n_sub, n_le, n_lt, n_eq, nI_clamp, if_true, if_false, if_pos, if_neg, or_false, false_or, not_false_eq_true, not_true_eq_false]; omega), nL_n (show s < 2 ^ 31 by omega), if_neg (nL_ne0 h0 (by omega)), if_neg (nL_ne0 h0 (by omega)), n_neg]
    simp (disch := omega) only [n_z1, n_z2, n_z3, n_z4, n_z5, n_z6, n_z7, n_z8, n_leL, n_leR, n_ltL, n_ltR, n_eqL, n_eqR, n_m1R, n_addL, n_addR, n_mulL, n_mulR, n_subR, n_subL, n_add, n_mul, n_neg, n_sub, n_le, n_lt, n_eq, nI_clamp, if_true, if_false, if_pos, if_neg, or_false, false_or, not_false_eq_true, not_true_eq_false]
    rw [h3 j (by omega), if_neg (by omega), nL_n (by omega), nL_shl (by omega) hd, nL_mod (by omega) (by omega), nL_div (by omega) (by omega), nL_i, shr_r v s j h0, ← shr_d v s j h0]
    refine x_div2 h0 hs j z _ (by omega) (by omega) (fun i hi => ?_)
    rw [upd_eq]
    by_cases c : i = j
    · rw [if_pos c, if_pos (by omega), c]
    · rw [if_neg c, h3 i hi]
      by_cases c2 : j + 1 ≤ i
      · rw [if_pos c2, if_pos (by omega)]
      · rw [if_neg c2, if_neg (by omega)]
theorem top_0 {v : Nat} (h : v < PB 8) (s : Nat) : v / PB 8 % s = 0 := by rw [Nat.div_eq_of_lt h, Nat.zero_mod]
theorem x_div {s v : Nat} {f : Nat → Int32} (h0 : 0 < s) (hs : s ≤ 1000000) (h : HX f v) : ∃ f', g_X0_divide (nI s) f = some f' ∧ HX f' (v / s) := by
  obtain ⟨f', q1, q2⟩ := x_div2 (v := v) h0 hs 8 zF f (by decide) (by omega) (fun j hj => by rw [if_neg (by omega)]; exact h.2 j hj)
  rw [top_0 h.1] at q1
  exact ⟨f', q1, Nat.lt_of_le_of_lt (Nat.div_le_self v s) h.1, q2⟩
theorem x_isd2 {s v : Nat} (h0 : 0 < s) (hs : s ≤ 1000000) {f : Nat → Int32} (h : ∀ i, i < 8 → f i = nI (dg v i)) : ∀ (j z : Nat), j < z → j ≤ 8 → g_X0_isDivided_6 f (nI s) z (nL (v / PB j % s)) (nI j - 1) = some (if v % s = 0 then 1 else 0)
  | _, 0, h, _ => absurd h (Nat.not_lt_zero _)
  | 0, z + 1, h1, h2 => by
    have hr := Nat.mod_lt v h0
    rw [g_X0_isDivided_6]
    unfold g_X0_isDivided_6b g_X0_isDivided_38
    rw [if_pos (by decide)]
    simp only [lg_eq0]
    rw [show PB 0 = 1 from rfl, Nat.div_one, show (0 : Int64) = nL 0 from rfl]
    by_cases c : v % s = 0
    · rw [if_pos c, if_pos (by rw [c])]
    · rw [if_neg c, if_neg (by rw [nL_eq (by omega) (by omega)]; exact c)]
  | j + 1, z + 1, h1, h2 => by
    rw [g_X0_isDivided_6]
    unfold g_X0_isDivided_6b
    have hd := dg_lt v j
    have hr := Nat.mod_lt (v / PB (j + 1)) h0
    rw [n_pred (show 0 < j + 1 by omega), Nat.add_sub_cancel, if_neg (nI_pos (show j < 2 ^ 31 by omega)), if_neg (show ¬ nI s ≤ 0 by simp (disch := omega) only [n_z1, n_z2, n_z3, n_z4, n_z5, n_z6, n_z7, n_z8, n_leL, n_leR, n_ltL, n_ltR, n_eqL, n_eqR, n_m1R, n_addL, n_addR, n_mulL, n_mulR, n_subR, n_subL, n_add, n_mul, n_neg, n_sub, n_le, n_lt, n_eq, nI_clamp, if_true, if_false, if_pos, if_neg, or_false, false_or, not_false_eq_true, not_true_eq_false]; omega), nL_n (show s < 2 ^ 31 by omega), if_neg (nL_ne0 h0 (by omega)), n_neg]
    simp (disch := omega) only [n_z1, n_z2, n_z3, n_z4, n_z5, n_z6, n_z7, n_z8, n_leL, n_leR, n_ltL, n_ltR, n_eqL, n_eqR, n_m1R, n_addL, n_addR, n_mulL, n_mulR, n_subR, n_subL, n_add, n_mul, n_neg, n_sub, n_le, n_lt, n_eq, nI_clamp, if_true, if_false, if_pos, if_neg, or_false, false_or, not_false_eq_true, not_true_eq_false]
    rw [h j (by omega), nL_n (by omega), nL_shl (by omega) hd, nL_mod (by omega) (by omega), shr_r v s j h0]
    exact x_isd2 h0 hs h j z (by omega) (by omega)
theorem x_isd {s v : Nat} {f : Nat → Int32} (h0 : 0 < s) (hs : s ≤ 1000000) (h : HX f v) : g_X0_isDivided f (nI s) = some (if v % s = 0 then 1 else 0) := by
  have q1 := x_isd2 (v := v) h0 hs h.2 8 zF (by decide) (by omega)
  rw [top_0 h.1] at q1
  exact q1
theorem x_become {v : Nat} (hv : v ≤ 1) (f : Nat → Int32) : ∃ f', g_X0_become (nI v) f = some f' ∧ HX f' v := by
  unfold g_X0_become
  rw [x_fill 8 (by omega), pb_some]
  have hb : v < PB 8 := by have : (2 : Nat) ≤ PB 8 := by decide
                           omega
  refine ⟨_, rfl, hb, fun i hi => ?_⟩
  rw [upd_eq]
  by_cases c : i = 0
  · subst c
    rw [if_pos rfl]
    unfold dg
    rw [show PB 0 = 1 from rfl, Nat.div_one, Nat.mod_eq_of_lt (by omega)]
  · rw [if_neg c, if_pos (by omega)]
    have : v / PB i = 0 := by
      apply Nat.div_eq_of_lt
      obtain ⟨i, rfl⟩ : ∃ j, i = j + 1 := ⟨i - 1, by omega⟩
      have := PB_pos i
      rw [PB]
      omega
    unfold dg
    rw [this]
    rfl
theorem m_mix2 {p q to ot x y : Nat} (hp : p ≤ 1000) (hq : q ≤ 1000) (ht : to < 64) (ho : ot < 64) (hne : to ≠ ot) (b0 : Nat → Int64) (hy : ∀ i, i < 8 → b0 (8 * ot + i) = nL (dg y i)) : ∀ (k z i : Nat) (b : Nat → Int64), 8 - i = k → k < z → i ≤ 8 →
    (∀ j, j < 8 → b (8 * to + j) = nL (if j < i then dg (p * x + q * y) j else dg x j)) → (∀ j, (j < 8 * to ∨ 8 * to + 8 ≤ j) → b j = b0 j) →
    ∃ b', g_X11_mixes_6 (nI to) (nL p) (nI ot) (nL q) z (nL (cry p x q y i)) (nI i) b = some b' ∧ (∀ j, j < 8 → b' (8 * to + j) = nL (dg (p * x + q * y) j)) ∧ (∀ j, (j < 8 * to ∨ 8 * to + 8 ≤ j) → b' j = b0 j)
  | _, 0, _, _, _, h, _, _, _ => absurd h (Nat.not_lt_zero _)
  | k, z + 1, i, b, h1, h2, h3, h4, h5 => by
    rw [g_X11_mixes_6]
    unfold g_X11_mixes_6b
    by_cases e : 8 ≤ i
    · rw [if_pos (show 8 ≤ nI i by simp (disch := omega) only [n_z1, n_z2, n_z3, n_z4, n_z5, n_z6, n_z7, n_z8, n_leL, n_leR, n_ltL, n_ltR, n_eqL, n_eqR, n_m1R, n_addL, n_addR, n_mulL, n_mulR, n_subR, n_subL, n_add, n_mul, n_neg, n_sub, n_le, n_lt, n_eq, nI_clamp, if_true, if_false, if_pos, if_neg, or_false, false_or, not_false_eq_true, not_true_eq_false]; omega)]
      exact ⟨b, rfl, fun j hj => by rw [h4 j hj, if_pos (by omega)], h5⟩
    · rw [if_neg (show ¬ 8 ≤ nI i by simp (disch := omega) only [n_z1, n_z2, n_z3, n_z4, n_z5, n_z6, n_z7, n_z8, n_leL, n_leR, n_ltL, n_ltR, n_eqL, n_eqR, n_m1R, n_addL, n_addR, n_mulL, n_mulR, n_subR, n_subL, n_add, n_mul, n_neg, n_sub, n_le, n_lt, n_eq, nI_clamp, if_true, if_false, if_pos, if_neg, or_false, false_or, not_false_eq_true, not_true_eq_false]; omega)]
      simp (disch := omega) only [n_z1, n_z2, n_z3, n_z4, n_z5, n_z6, n_z7, n_z8, n_leL, n_leR, n_ltL, n_ltR, n_eqL, n_eqR, n_m1R, n_addL, n_addR, n_mulL, n_mulR, n_subR, n_subL, n_add, n_mul, n_neg, n_sub, n_le, n_lt, n_eq, nI_clamp, if_true, if_false, if_pos, if_neg, or_false, false_or, not_false_eq_true, not_true_eq_false]
      have hd := dg_lt x i
      have hd2 := dg_lt y i
      have hc := cry_le p x q y i
      have m1 : p * dg x i ≤ 1000 * 1073741824 := Nat.mul_le_mul hp (Nat.le_of_lt hd)
      have m2 : q * dg y i ≤ 1000 * 1073741824 := Nat.mul_le_mul hq (Nat.le_of_lt hd2)
      rw [h4 i (by omega), if_neg (by omega), h5 (8 * ot + i) (by omega), hy i (by omega), nL_mul, nL_mul, nL_add, nL_add, show (1073741824 : Int64) = nL 1073741824 from rfl, nL_mod (by omega) (by omega), nL_div (by omega) (by omega), ← cry_s, ← cry_d]
      refine m_mix2 hp hq ht ho hne b0 hy (k - 1) z (i + 1) _ (by omega) (by omega) (by omega) (fun j hj => ?_) (fun j hj => ?_)
      · rw [updL_eq]
        by_cases c : j = i
        · rw [if_pos (by omega), if_pos (by omega), c]
        · rw [if_neg (by omega), h4 j hj]
          by_cases c2 : j < i
          · rw [if_pos c2, if_pos (by omega)]
          · rw [if_neg c2, if_neg (by omega)]
      · rw [updL_eq, if_neg (by omega)]
        exact h5 j hj
theorem m_mix {p q to ot x y : Nat} {b : Nat → Int64} (hp : p ≤ 1000) (hq : q ≤ 1000) (ht : to < 64) (ho : ot < 64) (hne : to ≠ ot) (hx : HM b to x) (hy : HM b ot y) (hb : p * x + q * y < PB 8) :
    ∃ b', g_X11_mixes (nI to) (nL p) (nI ot) (nL q) b = some b' ∧ HM b' to (p * x + q * y) ∧ (∀ k v, k ≠ to → HM b k v → HM b' k v) := by
  obtain ⟨b', q1, q2, q3⟩ := m_mix2 (x := x) hp hq ht ho hne b hy.2 8 zF 0 b rfl (by decide) (by omega) (fun j hj => by rw [if_neg (by omega)]; exact hx.2 j hj) (fun _ _ => rfl)
  rw [cry_0] at q1
  exact ⟨b', q1, ⟨hb, q2⟩, fun k v hk h => ⟨h.1, fun i hi => by rw [q3 _ (by omega)]; exact h.2 i hi⟩⟩
theorem m_rest2 {s v k : Nat} (h0 : 0 < s) (hs : s ≤ 1000) (hk : k < 64) {b : Nat → Int64} (h : ∀ i, i < 8 → b (8 * k + i) = nL (dg v i)) : ∀ (j z : Nat), j < z → j ≤ 8 → g_X11_restOf_7 b (nI k) (nL s) z (nL (v / PB j % s)) (nI j - 1) = some (nL (v % s))
  | _, 0, h, _ => absurd h (Nat.not_lt_zero _)
  | 0, z + 1, h1, h2 => by
    rw [g_X11_restOf_7]
    unfold g_X11_restOf_7b
    rw [if_pos (by decide), show PB 0 = 1 from rfl, Nat.div_one]
  | j + 1, z + 1, h1, h2 => by
    rw [g_X11_restOf_7]
    unfold g_X11_restOf_7b
    have hd := dg_lt v j
    have hr := Nat.mod_lt (v / PB (j + 1)) h0
    rw [n_pred (show 0 < j + 1 by omega), Nat.add_sub_cancel, if_neg (nI_pos (show j < 2 ^ 31 by omega)), if_neg (nL_ne0 h0 (by omega)), n_neg]
    simp (disch := omega) only [n_z1, n_z2, n_z3, n_z4, n_z5, n_z6, n_z7, n_z8, n_leL, n_leR, n_ltL, n_ltR, n_eqL, n_eqR, n_m1R, n_addL, n_addR, n_mulL, n_mulR, n_subR, n_subL, n_add, n_mul, n_neg, n_sub, n_le, n_lt, n_eq, nI_clamp, if_true, if_false, if_pos, if_neg, or_false, false_or, not_false_eq_true, not_true_eq_false]
    rw [h j (by omega), show (1073741824 : Int64) = nL 1073741824 from rfl, nL_mul, nL_add, nL_mod (by omega) (by omega), shr_r v s j h0]
    exact m_rest2 h0 hs hk h j z (by omega) (by omega)
theorem m_rest {s v k : Nat} {b : Nat → Int64} (h0 : 0 < s) (hs : s ≤ 1000) (hk : k < 64) (h : HM b k v) : g_X11_restOf b (nI k) (nL s) = some (nL (v % s)) := by
  have q1 := m_rest2 (v := v) h0 hs hk h.2 8 zF (by decide) (by omega)
  rw [top_0 h.1] at q1
  exact q1
theorem m_shr2 {s v k : Nat} (h0 : 0 < s) (hs : s ≤ 1000) (hk : k < 64) (b0 : Nat → Int64) : ∀ (j z : Nat) (b : Nat → Int64), j < z → j ≤ 8 → (∀ i, i < 8 → b (8 * k + i) = nL (if j ≤ i then dg (v / s) i else dg v i)) → (∀ i, (i < 8 * k ∨ 8 * k + 8 ≤ i) → b i = b0 i) → ∃ b', g_X11_shares_7 (nI k) (nL s) z (nL (v / PB j % s)) (nI j - 1) b = some b' ∧ (∀ i, i < 8 → b' (8 * k + i) = nL (dg (v / s) i)) ∧ (∀ i, (i < 8 * k ∨ 8 * k + 8 ≤ i) → b' i = b0 i)
  | _, 0, _, h, _, _, _ => absurd h (Nat.not_lt_zero _)
  | 0, z + 1, b, h1, h2, h3, h4 => by
    rw [g_X11_shares_7]
    unfold g_X11_shares_7b
    rw [if_pos (by decide)]
    exact ⟨b, rfl, fun i hi => by rw [h3 i hi, if_pos (by omega)], h4⟩
  | j + 1, z + 1, b, h1, h2, h3, h4 => by
    rw [g_X11_shares_7]
    unfold g_X11_shares_7b
    have hd := dg_lt v j
    have hr := Nat.mod_lt (v / PB (j + 1)) h0
    rw [n_pred (show 0 < j + 1 by omega), Nat.add_sub_cancel, if_neg (nI_pos (show j < 2 ^ 31 by omega)), if_neg (nL_ne0 h0 (by omega)), if_neg (nL_ne0 h0 (by omega)), n_neg]
    simp (disch := omega) only [n_z1, n_z2, n_z3, n_z4, n_z5, n_z6, n_z7, n_z8, n_leL, n_leR, n_ltL, n_ltR, n_eqL, n_eqR, n_m1R, n_addL, n_addR, n_mulL, n_mulR, n_subR, n_subL, n_add, n_mul, n_neg, n_sub, n_le, n_lt, n_eq, nI_clamp, if_true, if_false, if_pos, if_neg, or_false, false_or, not_false_eq_true, not_true_eq_false]
    rw [h3 j (by omega), if_neg (by omega), show (1073741824 : Int64) = nL 1073741824 from rfl, nL_mul, nL_add, nL_mod (by omega) (by omega), nL_div (by omega) (by omega), shr_r v s j h0, ← shr_d v s j h0]
    refine m_shr2 h0 hs hk b0 j z _ (by omega) (by omega) (fun i hi => ?_) (fun i hi => ?_)
    · rw [updL_eq]
      by_cases c : i = j
      · rw [if_pos (by omega), if_pos (by omega), c]
      · rw [if_neg (by omega), h3 i hi]
        by_cases c2 : j + 1 ≤ i
        · rw [if_pos c2, if_pos (by omega)]
        · rw [if_neg c2, if_neg (by omega)]
    · rw [updL_eq, if_neg (by omega)]
      exact h4 i hi
theorem m_shr {s v k : Nat} {b : Nat → Int64} (h0 : 0 < s) (hs : s ≤ 1000) (hk : k < 64) (h : HM b k v) : ∃ b', g_X11_shares (nI k) (nL s) b = some b' ∧ HM b' k (v / s) ∧ (∀ k' v', k' ≠ k → HM b k' v' → HM b' k' v') := by
  obtain ⟨b', q1, q2, q3⟩ := m_shr2 (v := v) h0 hs hk b 8 zF b (by decide) (by omega) (fun j hj => by rw [if_neg (by omega)]; exact h.2 j hj) (fun _ _ => rfl)
  rw [top_0 h.1] at q1
  exact ⟨b', q1, ⟨Nat.lt_of_le_of_lt (Nat.div_le_self v s) h.1, q2⟩, fun k v hk h => ⟨h.1, fun i hi => by rw [q3 _ (by omega)]; exact h.2 i hi⟩⟩
theorem sz_ex (f : Nat → Int32) : ∀ m, m ≤ 8 → (∀ j, m ≤ j → j < 8 → f j = 0) → ∃ n, SZ f n
  | 0, _, h => ⟨0, by omega, fun j a b => h j a b, fun h => by omega⟩
  | m + 1, hm, h => by
    by_cases c : f m = 0
    · refine sz_ex f m (by omega) (fun j a b => ?_)
      by_cases e : j = m
      · rw [e]; exact c
      · exact h j (by omega) b
    · exact ⟨m + 1, hm, h, fun _ => c⟩
/-- how many limbs a number has: none just if it is 0 -/
theorem hx_sz {f : Nat → Int32} {v n : Nat} (h : HX f v) (hs : SZ f n) : n = 0 ↔ v = 0 := by
  constructor
  · intro hn
    subst hn
    have hz : ∀ i, i ≤ 8 → v % PB i = 0 := by
      intro i
      induction i with
      | zero => intro _; rw [PB, Nat.mod_one]
      | succ i ih =>
        intro hi
        have q := h.2 i (by omega)
        rw [hs.2.1 i (by omega) (by omega), show (0 : Int32) = nI 0 from rfl, nI_eq (by omega) (by have := dg_lt v i; omega)] at q
        rw [mod_PB, ih (by omega), ← q]
        rfl
    have := hz 8 (by omega)
    rw [Nat.mod_eq_of_lt h.1] at this
    exact this
  · intro hv
    subst hv
    rcases Nat.eq_zero_or_pos n with c | c
    · exact c
    · exfalso
      apply hs.2.2 c
      rw [h.2 (n - 1) (by have := hs.1; omega)]
      unfold dg
      rw [Nat.zero_div]
      rfl
theorem m_lim2 {f : Nat → Int32} {v n k : Nat} {b : Nat → Int64} (hk : k < 64) (hx : HX f v) (h : HM b k v) (hs : SZ f n) : ∀ (j m z : Nat), m - n = j → n ≤ m → m ≤ 8 → j < z → g_X11_limbs_3 b (nI k) z (nI m) = some (nI n)
  | _, _, 0, _, _, _, h => absurd h (Nat.not_lt_zero _)
  | j, m, z + 1, h1, h2, h3, h4 => by
    rw [g_X11_limbs_3]
    unfold g_X11_limbs_3b
    simp only [lg_eq0]
    by_cases e : m = 0
    · subst e
      rw [if_pos (by decide), show n = 0 by omega]
    · rw [if_neg (show ¬ nI m ≤ 0 by simp (disch := omega) only [n_z1, n_z2, n_z3, n_z4, n_z5, n_z6, n_z7, n_z8, n_leL, n_leR, n_ltL, n_ltR, n_eqL, n_eqR, n_m1R, n_addL, n_addR, n_mulL, n_mulR, n_subR, n_subL, n_add, n_mul, n_neg, n_sub, n_le, n_lt, n_eq, nI_clamp, if_true, if_false, if_pos, if_neg, or_false, false_or, not_false_eq_true, not_true_eq_false]; omega)]
      simp (disch := omega) only [n_z1, n_z2, n_z3, n_z4, n_z5, n_z6, n_z7, n_z8, n_leL, n_leR, n_ltL, n_ltR, n_eqL, n_eqR, n_m1R, n_addL, n_addR, n_mulL, n_mulR, n_subR, n_subL, n_add, n_mul, n_neg, n_sub, n_le, n_lt, n_eq, nI_clamp, if_true, if_false, if_pos, if_neg, or_false, false_or, not_false_eq_true, not_true_eq_false]
      have hd := dg_lt v (m - 1)
      rw [show 8 * k + m - 1 = 8 * k + (m - 1) by omega, h.2 (m - 1) (by omega), show (0 : Int64) = nL 0 from rfl]
      have q := hx.2 (m - 1) (by omega)
      by_cases e2 : m = n
      · have hne := hs.2.2 (show 0 < n by omega)
        rw [← e2, q, show (0 : Int32) = nI 0 from rfl] at hne
        rw [if_neg (fun c => hne (by rw [nL_eq (by omega) (by omega)] at c; rw [c])), e2]
      · have hz := hs.2.1 (m - 1) (by omega) (by omega)
        rw [q, show (0 : Int32) = nI 0 from rfl, nI_eq (by omega) (by omega)] at hz
        rw [if_pos (by rw [hz])]
        exact m_lim2 hk hx h hs (j - 1) (m - 1) z (by omega) (by omega) (by omega) (by omega)
theorem m_lim {f : Nat → Int32} {v n k : Nat} {b : Nat → Int64} (hk : k < 64) (hx : HX f v) (h : HM b k v) (hs : SZ f n) : g_X11_limbs b (nI k) = some (nI n) :=
  m_lim2 hk hx h hs (8 - n) 8 zF rfl hs.1 (by omega) (by show _ < 65536; omega)
