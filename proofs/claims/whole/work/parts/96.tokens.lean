/-! THE TEXT OF A VALLEY: tokens, both sides -/
def isLe (x : Int32) : Prop := 97 ≤ x.toInt ∧ x.toInt ≤ 122
def isFi (x : Int32) : Prop := 48 ≤ x.toInt ∧ x.toInt ≤ 57
theorem x_let (x : Int32) : ∃ v, g_X6_isLetter x = some v ∧ ((v = 0 ∧ ¬ isLe x) ∨ (v = 1 ∧ isLe x)) := by
  unfold g_X6_isLetter
  have l1 : (x < 97) ↔ x.toInt < 97 := Int32.lt_iff_toInt_lt
  have l2 : (122 < x) ↔ 122 < x.toInt := Int32.lt_iff_toInt_lt
  simp only [l1, l2]
  by_cases c1 : x.toInt < 97
  · rw [if_pos c1]; exact ⟨0, rfl, Or.inl ⟨rfl, fun h => by have := h.1; omega⟩⟩
  · rw [if_neg c1]
    by_cases c2 : 122 < x.toInt
    · rw [if_pos c2]; exact ⟨0, rfl, Or.inl ⟨rfl, fun h => by have := h.2; omega⟩⟩
    · rw [if_neg c2]; exact ⟨1, rfl, Or.inr ⟨rfl, by omega, by omega⟩⟩
theorem x_fig (x : Int32) : ∃ v, g_X6_isFigure x = some v ∧ ((v = 0 ∧ ¬ isFi x) ∨ (v = 1 ∧ isFi x)) := by
  unfold g_X6_isFigure
  have l1 : (x < 48) ↔ x.toInt < 48 := Int32.lt_iff_toInt_lt
  have l2 : (57 < x) ↔ 57 < x.toInt := Int32.lt_iff_toInt_lt
  simp only [l1, l2]
  by_cases c1 : x.toInt < 48
  · rw [if_pos c1]; exact ⟨0, rfl, Or.inl ⟨rfl, fun h => by have := h.1; omega⟩⟩
  · rw [if_neg c1]
    by_cases c2 : 57 < x.toInt
    · rw [if_pos c2]; exact ⟨0, rfl, Or.inl ⟨rfl, fun h => by have := h.2; omega⟩⟩
    · rw [if_neg c2]; exact ⟨1, rfl, Or.inr ⟨rfl, by omega, by omega⟩⟩
theorem m_let (x : Int32) : ∃ v, g_X11_isLetter x = some v ∧ ((v = 0 ∧ ¬ isLe x) ∨ (v = 1 ∧ isLe x)) := by
  unfold g_X11_isLetter
  rw [p_inN x 97 122 97 122 rfl rfl]
  by_cases c : 97 ≤ x.toInt ∧ x.toInt ≤ 122
  · rw [if_pos c]; exact ⟨1, rfl, Or.inr ⟨rfl, c⟩⟩
  · rw [if_neg c]; exact ⟨0, rfl, Or.inl ⟨rfl, c⟩⟩
theorem m_fig (x : Int32) : ∃ v, g_X11_isFigure x = some v ∧ ((v = 0 ∧ ¬ isFi x) ∨ (v = 1 ∧ isFi x)) := by
  unfold g_X11_isFigure
  rw [p_inN x 48 57 48 57 rfl rfl]
  by_cases c : 48 ≤ x.toInt ∧ x.toInt ≤ 57
  · rw [if_pos c]; exact ⟨1, rfl, Or.inr ⟨rfl, c⟩⟩
  · rw [if_neg c]; exact ⟨0, rfl, Or.inl ⟨rfl, c⟩⟩
/-- what letters are worth, as a number -/
def wv (c : Nat → Int32) (b : Nat) : Nat → Nat
  | 0 => 0
  | l + 1 => 32 * wv c b l + (tn (c (b + l)) - 96)
def wl (c : Nat → Int32) (b l : Nat) : Int64 := if l ≤ 7 then nL (wv c b l) else -1
theorem wv_lt (c : Nat → Int32) (b : Nat) : ∀ l, (∀ i, i < l → isLe (c (b + i))) → wv c b l < 32 ^ l
  | 0, _ => by rw [wv]; decide
  | l + 1, h => by
    have h1 := wv_lt c b l (fun i hi => h i (by omega))
    obtain ⟨h2, h3⟩ := h l (by omega)
    rw [wv, Nat.pow_succ]
    unfold tn
    omega
/-- what figures are worth -/
def fv (c : Nat → Int32) (b : Nat) : Nat → Nat
  | 0 => 0
  | l + 1 => 10 * fv c b l + (tn (c (b + l)) - 48)
theorem fv_lt (c : Nat → Int32) (b : Nat) : ∀ l, (∀ i, i < l → isFi (c (b + i))) → fv c b l < 10 ^ l
  | 0, _ => by rw [fv]; decide
  | l + 1, h => by
    have h1 := fv_lt c b l (fun i hi => h i (by omega))
    obtain ⟨h2, h3⟩ := h l (by omega)
    rw [fv, Nat.pow_succ]
    unfold tn
    omega
/-- a token taken by both -/
def TR (c : Nat → Int32) (n b : Nat) (pl tk fi nu at_ be kd : Int32) (va : Int64) : Prop :=
  fi = nI b ∧ be = nI b ∧ b ≤ n ∧
  ((tk = 0 ∧ kd = 0) ∨
   (b < n ∧ tk = 1 ∧ kd = 1 ∧ ∃ l, 0 < l ∧ b + l ≤ n ∧ pl = nI (b + l) ∧ at_ = nI (b + l) ∧ (∀ i, i < l → isLe (c (b + i))) ∧ va = wl c b l) ∨
   (b < n ∧ tk = 2 ∧ kd = 2 ∧ ∃ l v, 0 < l ∧ b + l ≤ n ∧ pl = nI (b + l) ∧ at_ = nI (b + l) ∧ nu = nI v ∧ va = nL v ∧ v ≤ 999) ∨
   (b < n ∧ tk = 5 ∧ kd = 2 ∧ va = nL 100000) ∨
   (b < n ∧ tk = 3 ∧ kd = 3 ∧ pl = nI (b + 1) ∧ at_ = nI (b + 1)) ∨
   (b < n ∧ tk = 4 ∧ kd = 4 ∧ pl = nI (b + 1) ∧ at_ = nI (b + 1)) ∨
   (b < n ∧ tk = 5 ∧ kd = 5))
section
variable {c f g : Nat → Int32} {n : Nat} {s s' : Int32}
theorem t_at (hs : s = nI n) (hn : n ≤ 250) (hf : ∀ j, j < n → f j = c j) {p : Nat} (hp : p < n) : g_X7_at 250 1 s f (nI p) 0 = some (c p) := by
  have := p_at (N := 250) (n := n) (w := 1) (k := p) (c := 0) (f := f) (W9 := 1) (C9 := 0) rfl rfl hp (by omega) (by omega) (by omega) (by omega) (by omega)
  rw [hs, this, Nat.mul_one, Nat.add_zero, hf p hp]
/-- letters go on -/
theorem x_pw (hs : s = nI n) (hn : n ≤ 250) (hf : ∀ j, j < n → f j = c j) (b : Nat) (tk : Int32) : ∀ (k z l : Nat), n - (b + l) = k → k < z → b + l ≤ n → (∀ i, i < l → isLe (c (b + i))) →
    ∃ e, l ≤ e ∧ b + e ≤ n ∧ (∀ i, i < e → isLe (c (b + i))) ∧ (b + e < n → ¬ isLe (c (b + e))) ∧ g_X6_passWord_0 250 1 s f z (nI (b + l)) tk = some (nI (b + e), 1)
  | _, 0, _, _, h, _, _ => absurd h (Nat.not_lt_zero _)
  | k, z + 1, l, h1, h2, h3, h4 => by
    rw [g_X6_passWord_0]
    unfold g_X6_passWord_0b g_X6_passWord_45 g_X7_size
    rw [pb_some]
    by_cases e : n ≤ b + l
    · rw [if_pos (show s ≤ nI (b + l) by rw [hs]; simp (disch := omega) only [n_z1, n_z2, n_z3, n_z4, n_z5, n_z6, n_z7, n_z8, n_leL, n_leR, n_ltL, n_ltR, n_eqL, n_eqR, n_m1R, n_addL, n_addR, n_mulL, n_mulR, n_subR, n_subL, n_add, n_mul, n_neg, n_sub, n_le, n_lt, n_eq, nI_clamp, if_true, if_false, if_pos, if_neg, or_false, false_or, not_false_eq_true, not_true_eq_false]; omega)]
      exact ⟨l, Nat.le_refl l, h3, h4, fun h => by omega, rfl⟩
    · rw [if_neg (show ¬ s ≤ nI (b + l) by rw [hs]; simp (disch := omega) only [n_z1, n_z2, n_z3, n_z4, n_z5, n_z6, n_z7, n_z8, n_leL, n_leR, n_ltL, n_ltR, n_eqL, n_eqR, n_m1R, n_addL, n_addR, n_mulL, n_mulR, n_subR, n_subL, n_add, n_mul, n_neg, n_sub, n_le, n_lt, n_eq, nI_clamp, if_true, if_false, if_pos, if_neg, or_false, false_or, not_false_eq_true, not_true_eq_false]; omega), t_at hs hn hf (show b + l < n by omega), pb_some]
      obtain ⟨v, v1, ⟨v2, v3⟩ | ⟨v2, v3⟩⟩ := x_let (c (b + l))
      · rw [v1, pb_some, if_pos v2]
        exact ⟨l, Nat.le_refl l, h3, h4, fun _ => v3, rfl⟩
      · rw [v1, pb_some, if_neg (by rw [v2]; decide), n_addR]
        obtain ⟨e2, q1, q2, q3, q4, q5⟩ := x_pw hs hn hf b tk (k - 1) z (l + 1) (by omega) (by omega) (by omega) (fun i hi => by
          by_cases c1 : i = l
          · rw [c1]; exact v3
          · exact h4 i (by omega))
        exact ⟨e2, by omega, q2, q3, q4, q5⟩
theorem wl_s (b l : Nat) (h : ∀ i, i < l + 1 → isLe (c (b + i))) : wl c b (l + 1) = if 7 ≤ l then -1 else 32 * wl c b l + (c (b + l)).toInt64 - 96 := by
  unfold wl
  by_cases e : 7 ≤ l
  · rw [if_pos e, if_neg (by omega)]
  · rw [if_neg e, if_pos (by omega), if_pos (by omega), wv]
    obtain ⟨h2, h3⟩ := h l (by omega)
    have hc : (c (b + l)).toInt64 = nL (tn (c (b + l))) := by
      rw [tn_nI (show 0 ≤ (c (b + l)).toInt by omega), nL_n (by unfold tn; omega), tn_of (by unfold tn; omega)]
    have ht : 97 ≤ tn (c (b + l)) := by unfold tn; omega
    rw [hc, show (32 : Int64) = nL 32 from rfl, show (96 : Int64) = nL 96 from rfl, nL_mul, nL_add, nL_sub (by omega)]
    congr 1
    omega
theorem m_pw (hs : s' = nI n) (hn : n ≤ 250) (hg : ∀ j, j < n → g j = c j) (b e : Nat) (he : b + e ≤ n) (hl : ∀ i, i < e → isLe (c (b + i))) (hx : b + e < n → ¬ isLe (c (b + e))) : ∀ (k z l : Nat), e - l = k → k < z → l ≤ e →
    g_X11_next_161 s' g z (nI (b + l)) (nI b) 1 (wl c b l) = some (nI (b + e), nI b, 1, wl c b e)
  | _, 0, _, _, h, _ => absurd h (Nat.not_lt_zero _)
  | k, z + 1, l, h1, h2, h3 => by
    have stop : ∀ va, g_X11_next_255 s' g zF (nI (b + e)) (nI b) 1 va = some (nI (b + e), nI b, 1, va) := by
      intro va
      rw [show zF = 65535 + 1 from rfl, g_X11_next_255]
      unfold g_X11_next_255b
      rw [if_neg (show ¬ (1 : Int32) = 2 by decide)]
    rw [g_X11_next_161]
    unfold g_X11_next_161b g_X11_next_239
    rw [if_pos rfl]
    by_cases e1 : e ≤ l
    · have : l = e := by omega
      subst this
      by_cases e2 : n ≤ b + l
      · rw [if_pos (show s' ≤ nI (b + l) by rw [hs]; simp (disch := omega) only [n_z1, n_z2, n_z3, n_z4, n_z5, n_z6, n_z7, n_z8, n_leL, n_leR, n_ltL, n_ltR, n_eqL, n_eqR, n_m1R, n_addL, n_addR, n_mulL, n_mulR, n_subR, n_subL, n_add, n_mul, n_neg, n_sub, n_le, n_lt, n_eq, nI_clamp, if_true, if_false, if_pos, if_neg, or_false, false_or, not_false_eq_true, not_true_eq_false]; omega), stop]
      · rw [if_neg (show ¬ s' ≤ nI (b + l) by rw [hs]; simp (disch := omega) only [n_z1, n_z2, n_z3, n_z4, n_z5, n_z6, n_z7, n_z8, n_leL, n_leR, n_ltL, n_ltR, n_eqL, n_eqR, n_m1R, n_addL, n_addR, n_mulL, n_mulR, n_subR, n_subL, n_add, n_mul, n_neg, n_sub, n_le, n_lt, n_eq, nI_clamp, if_true, if_false, if_pos, if_neg, or_false, false_or, not_false_eq_true, not_true_eq_false]; omega)]
        simp (disch := omega) only [n_z1, n_z2, n_z3, n_z4, n_z5, n_z6, n_z7, n_z8, n_leL, n_leR, n_ltL, n_ltR, n_eqL, n_eqR, n_m1R, n_addL, n_addR, n_mulL, n_mulR, n_subR, n_subL, n_add, n_mul, n_neg, n_sub, n_le, n_lt, n_eq, nI_clamp, if_true, if_false, if_pos, if_neg, or_false, false_or, not_false_eq_true, not_true_eq_false]
        rw [hg (b + l) (by omega)]
        obtain ⟨v, v1, ⟨v2, v3⟩ | ⟨v2, v3⟩⟩ := m_let (c (b + l))
        · rw [v1, pb_some, if_pos v2, stop]
        · exact absurd v3 (hx (by omega))
    · rw [if_neg (show ¬ s' ≤ nI (b + l) by rw [hs]; simp (disch := omega) only [n_z1, n_z2, n_z3, n_z4, n_z5, n_z6, n_z7, n_z8, n_leL, n_leR, n_ltL, n_ltR, n_eqL, n_eqR, n_m1R, n_addL, n_addR, n_mulL, n_mulR, n_subR, n_subL, n_add, n_mul, n_neg, n_sub, n_le, n_lt, n_eq, nI_clamp, if_true, if_false, if_pos, if_neg, or_false, false_or, not_false_eq_true, not_true_eq_false]; omega)]
      simp (disch := omega) only [n_z1, n_z2, n_z3, n_z4, n_z5, n_z6, n_z7, n_z8, n_leL, n_leR, n_ltL, n_ltR, n_eqL, n_eqR, n_m1R, n_addL, n_addR, n_mulL, n_mulR, n_subR, n_subL, n_add, n_mul, n_neg, n_sub, n_le, n_lt, n_eq, nI_clamp, if_true, if_false, if_pos, if_neg, or_false, false_or, not_false_eq_true, not_true_eq_false]
      rw [hg (b + l) (by omega)]
      obtain ⟨v, v1, ⟨v2, v3⟩ | ⟨v2, v3⟩⟩ := m_let (c (b + l))
      · exact absurd (hl l (by omega)) v3
      · rw [v1, pb_some, if_neg (by rw [v2]; decide)]
        have ih := m_pw hs hn hg b e he hl hx (k - 1) z (l + 1) (by omega) (by omega) (by omega)
        rw [wl_s b l (fun i hi => hl i (by omega))] at ih
        rw [show b + l - b = l by omega]
        by_cases e3 : 7 ≤ l
        · rw [if_pos e3]
          rw [if_pos e3] at ih
          exact ih
        · rw [if_neg e3]
          rw [if_neg e3] at ih
          exact ih
theorem fv_s (b l : Nat) (hl : l < 3) (h : ∀ i, i < l + 1 → isFi (c (b + i))) : nI (fv c b (l + 1)) = 10 * nI (fv c b l) + c (b + l) - 48 ∧ nL (fv c b (l + 1)) = 10 * nL (fv c b l) + (c (b + l)).toInt64 - 48 := by
  have hlt := fv_lt c b l (fun i hi => h i (by omega))
  have hp : 10 ^ l ≤ 10 ^ 3 := Nat.pow_le_pow_right (by omega) (by omega)
  obtain ⟨h2, h3⟩ := h l (by omega)
  have hc : c (b + l) = nI (tn (c (b + l))) := tn_nI (show 0 ≤ (c (b + l)).toInt by omega)
  have ht : 48 ≤ tn (c (b + l)) := by unfold tn; omega
  have ht2 : tn (c (b + l)) ≤ 57 := by unfold tn; omega
  rw [fv]
  constructor
  · rw [hc, tn_of (by omega)]
    simp (disch := omega) only [n_z1, n_z2, n_z3, n_z4, n_z5, n_z6, n_z7, n_z8, n_leL, n_leR, n_ltL, n_ltR, n_eqL, n_eqR, n_m1R, n_addL, n_addR, n_mulL, n_mulR, n_subR, n_subL, n_add, n_mul, n_neg, n_sub, n_le, n_lt, n_eq, nI_clamp, if_true, if_false, if_pos, if_neg, or_false, false_or, not_false_eq_true, not_true_eq_false]
    congr 1
    omega
  · rw [hc, tn_of (by omega), nL_n (by omega), show (10 : Int64) = nL 10 from rfl, show (48 : Int64) = nL 48 from rfl, nL_mul, nL_add, nL_sub (by omega)]
    congr 1
    omega
theorem x_pf (hs : s = nI n) (hn : n ≤ 250) (hf : ∀ j, j < n → f j = c j) (b : Nat) (tk : Int32) : ∀ (k z l : Nat) (nu : Int32), n - (b + l) = k → k < z → b + l ≤ n → (∀ i, i < l → isFi (c (b + i))) → (l ≤ 3 → nu = nI (fv c b l)) →
    ∃ e nu', l ≤ e ∧ b + e ≤ n ∧ (∀ i, i < e → isFi (c (b + i))) ∧ (b + e < n → ¬ isFi (c (b + e))) ∧ g_X6_passFigures_5 250 (nI b) 1 s f z (nI (b + l)) tk nu = some (nI (b + e), if e ≤ 3 then 2 else 5, nu') ∧ (e ≤ 3 → nu' = nI (fv c b e))
  | _, 0, _, _, _, h, _, _, _ => absurd h (Nat.not_lt_zero _)
  | k, z + 1, l, nu, h1, h2, h3, h4, h5 => by
    have stop : g_X6_passFigures_90 250 (nI b) 1 s f (nI (b + l)) tk nu = some (nI (b + l), if l ≤ 3 then 2 else 5, nu) := by
      unfold g_X6_passFigures_90 g_X6_passFigures_109
      simp (disch := omega) only [n_z1, n_z2, n_z3, n_z4, n_z5, n_z6, n_z7, n_z8, n_leL, n_leR, n_ltL, n_ltR, n_eqL, n_eqR, n_m1R, n_addL, n_addR, n_mulL, n_mulR, n_subR, n_subL, n_add, n_mul, n_neg, n_sub, n_le, n_lt, n_eq, nI_clamp, if_true, if_false, if_pos, if_neg, or_false, false_or, not_false_eq_true, not_true_eq_false]
      rw [show b + l - b = l by omega]
      by_cases c1 : l ≤ 3
      · rw [if_pos c1, if_pos c1]
      · rw [if_neg c1, if_neg c1]
    rw [g_X6_passFigures_5]
    unfold g_X6_passFigures_5b g_X6_passFigures_77 g_X7_size
    rw [pb_some]
    by_cases e : n ≤ b + l
    · rw [if_pos (show s ≤ nI (b + l) by rw [hs]; simp (disch := omega) only [n_z1, n_z2, n_z3, n_z4, n_z5, n_z6, n_z7, n_z8, n_leL, n_leR, n_ltL, n_ltR, n_eqL, n_eqR, n_m1R, n_addL, n_addR, n_mulL, n_mulR, n_subR, n_subL, n_add, n_mul, n_neg, n_sub, n_le, n_lt, n_eq, nI_clamp, if_true, if_false, if_pos, if_neg, or_false, false_or, not_false_eq_true, not_true_eq_false]; omega), stop]
      exact ⟨l, nu, Nat.le_refl l, h3, h4, fun h => by omega, rfl, h5⟩
    · rw [if_neg (show ¬ s ≤ nI (b + l) by rw [hs]; simp (disch := omega) only [n_z1, n_z2, n_z3, n_z4, n_z5, n_z6, n_z7, n_z8, n_leL, n_leR, n_ltL, n_ltR, n_eqL, n_eqR, n_m1R, n_addL, n_addR, n_mulL, n_mulR, n_subR, n_subL, n_add, n_mul, n_neg, n_sub, n_le, n_lt, n_eq, nI_clamp, if_true, if_false, if_pos, if_neg, or_false, false_or, not_false_eq_true, not_true_eq_false]; omega), t_at hs hn hf (show b + l < n by omega), pb_some]
      obtain ⟨v, v1, ⟨v2, v3⟩ | ⟨v2, v3⟩⟩ := x_fig (c (b + l))
      · rw [v1, pb_some, if_pos v2, stop]
        exact ⟨l, nu, Nat.le_refl l, h3, h4, fun _ => v3, rfl, h5⟩
      · rw [v1, pb_some, if_neg (by rw [v2]; decide), pb_some, n_addR]
        have h4' : ∀ i, i < l + 1 → isFi (c (b + i)) := fun i hi => by
          by_cases c1 : i = l
          · rw [c1]; exact v3
          · exact h4 i (by omega)
        have hd : (3 ≤ nI (b + l) - nI b) = (3 ≤ l) := by simp (disch := omega) only [n_z1, n_z2, n_z3, n_z4, n_z5, n_z6, n_z7, n_z8, n_leL, n_leR, n_ltL, n_ltR, n_eqL, n_eqR, n_m1R, n_addL, n_addR, n_mulL, n_mulR, n_subR, n_subL, n_add, n_mul, n_neg, n_sub, n_le, n_lt, n_eq, nI_clamp, if_true, if_false, if_pos, if_neg, or_false, false_or, not_false_eq_true, not_true_eq_false]; apply propext; omega
        by_cases c3 : 3 ≤ l
        · rw [if_pos (by rw [hd]; exact c3)]
          obtain ⟨e2, nu', q1, q2, q3, q4, q5, q6⟩ := x_pf hs hn hf b tk (k - 1) z (l + 1) nu (by omega) (by omega) (by omega) h4' (fun h => by omega)
          exact ⟨e2, nu', by omega, q2, q3, q4, q5, q6⟩
        · rw [if_neg (by rw [hd]; exact c3)]
          obtain ⟨e2, nu', q1, q2, q3, q4, q5, q6⟩ := x_pf hs hn hf b tk (k - 1) z (l + 1) (10 * nu + c (b + l) - 48) (by omega) (by omega) (by omega) h4' (fun h => by rw [h5 (by omega)]; exact (fv_s b l (by omega) h4').1.symm)
          exact ⟨e2, nu', by omega, q2, q3, q4, q5, q6⟩
theorem m_pfg (hs : s' = nI n) (hn : n ≤ 250) (hg : ∀ j, j < n → g j = c j) (b e : Nat) (he : b + e ≤ n) (hl : ∀ i, i < e → isFi (c (b + i))) (hx : b + e < n → ¬ isFi (c (b + e))) : ∀ (k z l : Nat) (va : Int64), e - l = k → k < z → l ≤ e → (va = if l ≤ 3 then nL (fv c b l) else nL 100000) →
    g_X11_next_255 s' g z (nI (b + l)) (nI b) 2 va = some (nI (b + e), nI b, 2, if e ≤ 3 then nL (fv c b e) else nL 100000)
  | _, 0, _, _, _, h, _, _ => absurd h (Nat.not_lt_zero _)
  | k, z + 1, l, va, h1, h2, h3, h4 => by
    rw [g_X11_next_255]
    unfold g_X11_next_255b g_X11_next_332
    rw [if_pos rfl]
    by_cases e1 : e ≤ l
    · have : l = e := by omega
      subst this
      by_cases e2 : n ≤ b + l
      · rw [if_pos (show s' ≤ nI (b + l) by rw [hs]; simp (disch := omega) only [n_z1, n_z2, n_z3, n_z4, n_z5, n_z6, n_z7, n_z8, n_leL, n_leR, n_ltL, n_ltR, n_eqL, n_eqR, n_m1R, n_addL, n_addR, n_mulL, n_mulR, n_subR, n_subL, n_add, n_mul, n_neg, n_sub, n_le, n_lt, n_eq, nI_clamp, if_true, if_false, if_pos, if_neg, or_false, false_or, not_false_eq_true, not_true_eq_false]; omega), h4]
      · rw [if_neg (show ¬ s' ≤ nI (b + l) by rw [hs]; simp (disch := omega) only [n_z1, n_z2, n_z3, n_z4, n_z5, n_z6, n_z7, n_z8, n_leL, n_leR, n_ltL, n_ltR, n_eqL, n_eqR, n_m1R, n_addL, n_addR, n_mulL, n_mulR, n_subR, n_subL, n_add, n_mul, n_neg, n_sub, n_le, n_lt, n_eq, nI_clamp, if_true, if_false, if_pos, if_neg, or_false, false_or, not_false_eq_true, not_true_eq_false]; omega)]
        simp (disch := omega) only [n_z1, n_z2, n_z3, n_z4, n_z5, n_z6, n_z7, n_z8, n_leL, n_leR, n_ltL, n_ltR, n_eqL, n_eqR, n_m1R, n_addL, n_addR, n_mulL, n_mulR, n_subR, n_subL, n_add, n_mul, n_neg, n_sub, n_le, n_lt, n_eq, nI_clamp, if_true, if_false, if_pos, if_neg, or_false, false_or, not_false_eq_true, not_true_eq_false]
        rw [hg (b + l) (by omega)]
        obtain ⟨v, v1, ⟨v2, v3⟩ | ⟨v2, v3⟩⟩ := m_fig (c (b + l))
        · rw [v1, pb_some, if_pos v2, h4]
        · exact absurd v3 (hx (by omega))
    · rw [if_neg (show ¬ s' ≤ nI (b + l) by rw [hs]; simp (disch := omega) only [n_z1, n_z2, n_z3, n_z4, n_z5, n_z6, n_z7, n_z8, n_leL, n_leR, n_ltL, n_ltR, n_eqL, n_eqR, n_m1R, n_addL, n_addR, n_mulL, n_mulR, n_subR, n_subL, n_add, n_mul, n_neg, n_sub, n_le, n_lt, n_eq, nI_clamp, if_true, if_false, if_pos, if_neg, or_false, false_or, not_false_eq_true, not_true_eq_false]; omega)]
      simp (disch := omega) only [n_z1, n_z2, n_z3, n_z4, n_z5, n_z6, n_z7, n_z8, n_leL, n_leR, n_ltL, n_ltR, n_eqL, n_eqR, n_m1R, n_addL, n_addR, n_mulL, n_mulR, n_subR, n_subL, n_add, n_mul, n_neg, n_sub, n_le, n_lt, n_eq, nI_clamp, if_true, if_false, if_pos, if_neg, or_false, false_or, not_false_eq_true, not_true_eq_false]
      rw [hg (b + l) (by omega)]
      obtain ⟨v, v1, ⟨v2, v3⟩ | ⟨v2, v3⟩⟩ := m_fig (c (b + l))
      · exact absurd (hl l (by omega)) v3
      · rw [v1, pb_some, if_neg (by rw [v2]; decide)]
        have ih := fun va h => m_pfg hs hn hg b e he hl hx (k - 1) z (l + 1) va (by omega) (by omega) (by omega) h
        rw [show b + l - b = l by omega]
        by_cases e3 : 3 ≤ l
        · rw [if_pos e3]
          exact ih (nL 100000) (by rw [if_neg (by omega)])
        · rw [if_neg e3]
          refine ih _ ?_
          rw [if_pos (by omega), h4, if_pos (by omega)]
          exact (fv_s b l (by omega) (fun i hi => hl i (by omega))).2.symm
end
