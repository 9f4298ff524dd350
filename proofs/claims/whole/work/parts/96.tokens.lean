/-! THE TEXT OF A VALLEY: tokens, both sides -/
def isLe (x : Int32) : Prop := 97 ≤ x.toInt ∧ x.toInt ≤ 122
def isFi (x : Int32) : Prop := 48 ≤ x.toInt ∧ x.toInt ≤ 57
theorem x_let (x : Int32) : ∃ v, g_X6_isLetter x = some v ∧ ((v = 0 ∧ ¬ isLe x) ∨ (v = 1 ∧ isLe x)) := by
  unfold g_X6_isLetter
  have l1 : (x < 97) ↔ x.toInt < 97 := Int32.lt_iff_toInt_lt
  have l2 : (122 < x) ↔ 122 < x.toInt := Int32.lt_iff_toInt_lt
  simp only [l1, l2]
  by_cases c1 : x.toInt < 97
  · rw [if_pos c1]; exact ⟨0, rfl, Or.inl ⟨rfl, fun h => by have := h.1; omega⟩⟩
  · rw [if_neg c1]
    by_cases c2 : 122 < x.toInt
    · rw [if_pos c2]; exact ⟨0, rfl, Or.inl ⟨rfl, fun h => by have := h.2; omega⟩⟩
    · rw [if_neg c2]; exact ⟨1, rfl, Or.inr ⟨rfl, by omega, by omega⟩⟩
theorem x_fig (x : Int32) : ∃ v, g_X6_isFigure x = some v ∧ ((v = 0 ∧ ¬ isFi x) ∨ (v = 1 ∧ isFi x)) := by
  unfold g_X6_isFigure
  have l1 : (x < 48) ↔ x.toInt < 48 := Int32.lt_iff_toInt_lt
  have l2 : (57 < x) ↔ 57 < x.toInt := Int32.lt_iff_toInt_lt
  simp only [l1, l2]
  by_cases c1 : x.toInt < 48
  · rw [if_pos c1]; exact ⟨0, rfl, Or.inl ⟨rfl, fun h => by have := h.1; omega⟩⟩
  · rw [if_neg c1]
    by_cases c2 : 57 < x.toInt
    · rw [if_pos c2]; exact ⟨0, rfl, Or.inl ⟨rfl, fun h => by have := h.2; omega⟩⟩
    · rw [if_neg c2]; exact ⟨1, rfl, Or.inr ⟨rfl, by omega, by omega⟩⟩
theorem m_let (x : Int32) : ∃ v, g_X11_isLetter x = some v ∧ ((v = 0 ∧ ¬ isLe x) ∨ (v = 1 ∧ isLe x)) := by
  unfold g_X11_isLetter
  rw [p_inN x 97 122 97 122 rfl rfl]
  by_cases c : 97 ≤ x.toInt ∧ x.toInt ≤ 122
  · rw [if_pos c]; exact ⟨1, rfl, Or.inr ⟨rfl, c⟩⟩
  · rw [if_neg c]; exact ⟨0, rfl, Or.inl ⟨rfl, c⟩⟩
theorem m_fig (x : Int32) : ∃ v, g_X11_isFigure x = some v ∧ ((v = 0 ∧ ¬ isFi x) ∨ (v = 1 ∧ isFi x)) := by
  unfold g_X11_isFigure
  rw [p_inN x 48 57 48 57 rfl rfl]
  by_cases c : 48 ≤ x.toInt ∧ x.toInt ≤ 57
  · rw [if_pos c]; exact ⟨1, rfl, Or.inr ⟨rfl, c⟩⟩
  · rw [if_neg c]; exact ⟨0, rfl, Or.inl ⟨rfl, c⟩⟩
/-- what letters are worth, as a number -/
def wv (c : Nat → Int32) (b : Nat) : Nat → Nat
  | 0 => 0
  | l + 1 => 32 * wv c b l + (tn (c (b + l)) - 96)
def wl (c : Nat → Int32) (b l : Nat) : Int64 := if l ≤ 7 then nL (wv c b l) else -1
theorem wv_lt (c : Nat → Int32) (b : Nat) : ∀ l, (∀ i, i < l → isLe (c (b + i))) → wv c b l < 32 ^ l
  | 0, _ => by rw [wv]; decide
  | l + 1, h => by
    have h1 := wv_lt c b l (fun i hi => h i (by omega))
    obtain ⟨h2, h3⟩ := h l (by omega)
    rw [wv, Nat.pow_succ]
    unfold tn
    omega
/-- what figures are worth -/
def fv (c : Nat → Int32) (b : Nat) : Nat → Nat
  | 0 => 0
  | l + 1 => 10 * fv c b l + (tn (c (b + l)) - 48)
theorem fv_lt (c : Nat → Int32) (b : Nat) : ∀ l, (∀ i, i < l → isFi (c (b + i))) → fv c b l < 10 ^ l
  | 0, _ => by rw [fv]; decide
  | l + 1, h => by
    have h1 := fv_lt c b l (fun i hi => h i (by omega))
    obtain ⟨h2, h3⟩ := h l (by omega)
    rw [fv, Nat.pow_succ]
    unfold tn
    omega
/-- a token taken by both -/
def TR (c : Nat → Int32) (n b : Nat) (pl tk fi nu at_ be kd : Int32) (va : Int64) : Prop :=
  fi = nI b ∧ be = nI b ∧ b ≤ n ∧
  ((tk = 0 ∧ kd = 0) ∨
   (b < n ∧ tk = 1 ∧ kd = 1 ∧ ∃ l, 0 < l ∧ b + l ≤ n ∧ pl = nI (b + l) ∧ at_ = nI (b + l) ∧ (∀ i, i < l → isLe (c (b + i))) ∧ va = wl c b l) ∨
   (b < n ∧ tk = 2 ∧ kd = 2 ∧ ∃ l v, 0 < l ∧ b + l ≤ n ∧ pl = nI (b + l) ∧ at_ = nI (b + l) ∧ nu = nI v ∧ va = nL v ∧ v ≤ 999) ∨
   (b < n ∧ tk = 5 ∧ kd = 2 ∧ va = nL 100000) ∨
   (b < n ∧ tk = 3 ∧ kd = 3 ∧ pl = nI (b + 1) ∧ at_ = nI (b + 1)) ∨
   (b < n ∧ tk = 4 ∧ kd = 4 ∧ pl = nI (b + 1) ∧ at_ = nI (b + 1)) ∨
   (b < n ∧ tk = 5 ∧ kd = 5))
section
variable {c f g : Nat → Int32} {n : Nat} {s s' : Int32}
theorem t_at (hs : s = nI n) (hn : n ≤ 250) (hf : ∀ j, j < n → f j = c j) {p : Nat} (hp : p < n) : g_X7_at 250 1 s f (nI p) 0 = some (c p) := by
  have := p_at (N := 250) (n := n) (w := 1) (k := p) (c := 0) (f := f) (W9 := 1) (C9 := 0) rfl rfl hp (by omega) (by omega) (by omega) (by omega) (by omega)
  rw [hs, this, Nat.mul_one, Nat.add_zero, hf p hp]
/-- letters go on -/
theorem x_pw (hs : s = nI n) (hn : n ≤ 250) (hf : ∀ j, j < n → f j = c j) (b : Nat) (tk : Int32) : ∀ (k z l : Nat), n - (b + l) = k → k < z → b + l ≤ n → (∀ i, i < l → isLe (c (b + i))) →
    ∃ e, l ≤ e ∧ b + e ≤ n ∧ (∀ i, i < e → isLe (c (b + i))) ∧ (b + e < n → ¬ isLe (c (b + e))) ∧ g_X6_passWord_0 250 1 s f z (nI (b + l)) tk = some (nI (b + e), 1)
  | _, 0, _, _, h, _, _ => absurd h (Nat.not_lt_zero _)
  | k, z + 1, l, h1, h2, h3, h4 => by
    rw [g_X6_passWord_0]
    unfold g_X6_passWord_0b g_X6_passWord_45 g_X7_size
    rw [pb_some]
    by_cases e : n ≤ b + l
    · rw [if_pos (show s ≤ nI (b + l) by rw [hs]; simp (disch := omega) only [n_z1, n_z2, n_z3, n_z4, n_z5, n_z6, n_z7, n_z8, n_leL, n_leR, n_ltL, n_ltR, n_eqL, n_eqR, n_m1R, n_addL, n_addR, n_mulL, n_mulR, n_subR, n_subL, n_add, n_mul, n_neg, n_sub, n_le, n_lt, n_eq, nI_clamp, if_true, if_false, if_pos, if_neg, or_false, false_or, not_false_eq_true, not_true_eq_false]; omega)]
      exact ⟨l, Nat.le_refl l, h3, h4, fun h => by omega, rfl⟩
    · rw [if_neg (show ¬ s ≤ nI (b + l) by rw [hs]; simp (disch := omega) only [n_z1, n_z2, n_z3, n_z4, n_z5, n_z6, n_z7, n_z8, n_leL, n_leR, n_ltL, n_ltR, n_eqL, n_eqR, n_m1R, n_addL, n_addR, n_mulL, n_mulR, n_subR, n_subL, n_add, n_mul, n_neg, n_sub, n_le, n_lt, n_eq, nI_clamp, if_true, if_false, if_pos, if_neg, or_false, false_or, not_false_eq_true, not_true_eq_false]; omega), t_at hs hn hf (show b + l < n by omega), pb_some]
      obtain ⟨v, v1, ⟨v2, v3⟩ | ⟨v2, v3⟩⟩ := x_let (c (b + l))
      · rw [v1, pb_some, if_pos v2]
        exact ⟨l, Nat.le_refl l, h3, h4, fun _ => v3, rfl⟩
      · rw [v1, pb_some, if_neg (by rw [v2]; decide), n_addR]
        obtain ⟨e2, q1, q2, q3, q4, q5⟩ := x_pw hs hn hf b tk (k - 1) z (l + 1) (by omega) (by omega) (by omega) (fun i hi => by
          by_cases c1 : i = l
          · rw [c1]; exact v3
          · exact h4 i (by omega))
        exact ⟨e2, by omega, q2, q3, q4, q5⟩
theorem wl_s (b l : Nat) (h : ∀ i, i < l + 1 → isLe (c (b + i))) : wl c b (l + 1) = if 7 ≤ l then -1 else 32 * wl c b l + (c (b + l)).toInt64 - 96 := by
  unfold wl
  by_cases e : 7 ≤ l
  · rw [if_pos e, if_neg (by omega)]
  · rw [if_neg e, if_pos (by omega), if_pos (by omega), wv]
    obtain ⟨h2, h3⟩ := h l (by omega)
    have hc : (c (b + l)).toInt64 = nL (tn (c (b + l))) := by
      rw [tn_nI (show 0 ≤ (c (b + l)).toInt by omega), nL_n (by unfold tn; omega), tn_of (by unfold tn; omega)]
    have ht : 97 ≤ tn (c (b + l)) := by unfold tn; omega
    rw [hc, show (32 : Int64) = nL 32 from rfl, show (96 : Int64) = nL 96 from rfl, nL_mul, nL_add, nL_sub (by omega)]
    congr 1
    omega
theorem m_pw (hs : s' = nI n) (hn : n ≤ 250) (hg : ∀ j, j < n → g j = c j) (b e : Nat) (he : b + e ≤ n) (hl : ∀ i, i < e → isLe (c (b + i))) (hx : b + e < n → ¬ isLe (c (b + e))) : ∀ (k z l : Nat), e - l = k → k < z → l ≤ e →
    g_X11_next_161 s' g z (nI (b + l)) (nI b) 1 (wl c b l) = some (nI (b + e), nI b, 1, wl c b e)
  | _, 0, _, _, h, _ => absurd h (Nat.not_lt_zero _)
  | k, z + 1, l, h1, h2, h3 => by
    have stop : ∀ va, g_X11_next_255 s' g zF (nI (b + e)) (nI b) 1 va = some (nI (b + e), nI b, 1, va) := by
      intro va
      rw [show zF = 65535 + 1 from rfl, g_X11_next_255]
      unfold g_X11_next_255b
      rw [if_neg (show ¬ (1 : Int32) = 2 by decide)]
    rw [g_X11_next_161]
    unfold g_X11_next_161b g_X11_next_239
    rw [if_pos rfl]
    by_cases e1 : e ≤ l
    · have : l = e := by omega
      subst this
      by_cases e2 : n ≤ b + l
      · rw [if_pos (show s' ≤ nI (b + l) by rw [hs]; simp (disch := omega) only [n_z1, n_z2, n_z3, n_z4, n_z5, n_z6, n_z7, n_z8, n_leL, n_leR, n_ltL, n_ltR, n_eqL, n_eqR, n_m1R, n_addL, n_addR, n_mulL, n_mulR, n_subR, n_subL, n_add, n_mul, n_neg, n_sub, n_le, n_lt, n_eq, nI_clamp, if_true, if_false, if_pos, if_neg, or_false, false_or, not_false_eq_true, not_true_eq_false]; omega), stop]
      · rw [if_neg (show ¬ s' ≤ nI (b + l) by rw [hs]; simp (disch := omega) only [n_z1, n_z2, n_z3, n_z4, n_z5, n_z6, n_z7, n_z8, n_leL, n_leR, n_ltL, n_ltR, n_eqL, n_eqR, n_m1R, n_addL, n_addR, n_mulL, n_mulR, n_subR, n_subL, n_add, n_mul, n_neg, n_sub, n_le, n_lt, n_eq, nI_clamp, if_true, if_false, if_pos, if_neg, or_false, false_or, not_false_eq_true, not_true_eq_false]; omega)]
        simp (disch := omega) only [n_z1, n_z2, n_z3, n_z4, n_z5, n_z6, n_z7, n_z8, n_leL, n_leR, n_ltL, n_ltR, n_eqL, n_eqR, n_m1R, n_addL, n_addR, n_mulL, n_mulR, n_subR, n_subL, n_add, n_mul, n_neg, n_sub, n_le, n_lt, n_eq, nI_clamp, if_true, if_false, if_pos, if_neg, or_false, false_or, not_false_eq_true, not_true_eq_false]
        rw [hg (b + l) (by omega)]
        obtain ⟨v, v1, ⟨v2, v3⟩ | ⟨v2, v3⟩⟩ := m_let (c (b + l))
        · rw [v1, pb_some, if_pos v2, stop]
        · exact absurd v3 (hx (by omega))
    · rw [if_neg (show ¬ s' ≤ nI (b + l) by rw [hs]; simp (disch := omega) only [n_z1, n_z2, n_z3, n_z4, n_z5, n_z6, n_z7, n_z8, n_leL, n_leR, n_ltL, n_ltR, n_eqL, n_eqR, n_m1R, n_addL, n_addR, n_mulL, n_mulR, n_subR, n_subL, n_add, n_mul, n_neg, n_sub, n_le, n_lt, n_eq, nI_clamp, if_true, if_false, if_pos, if_neg, or_false, false_or, not_false_eq_true, not_true_eq_false]; omega)]
      simp (disch := omega) only [n_z1, n_z2, n_z3, n_z4, n_z5, n_z6, n_z7, n_z8, n_leL, n_leR, n_ltL, n_ltR, n_eqL, n_eqR, n_m1R, n_addL, n_addR, n_mulL, n_mulR, n_subR, n_subL, n_add, n_mul, n_neg, n_sub, n_le, n_lt, n_eq, nI_clamp, if_true, if_false, if_pos, if_neg, or_false, false_or, not_false_eq_true, not_true_eq_false]
      rw [hg (b + l) (by omega)]
      obtain ⟨v, v1, ⟨v2, v3⟩ | ⟨v2, v3⟩⟩ := m_let (c (b + l))
      · exact absurd (hl l (by omega)) v3
      · rw [v1, pb_some, if_neg (by rw [v2]; decide)]
        have ih := m_pw hs hn hg b e he hl hx (k - 1) z (l + 1) (by omega) (by omega) (by omega)
        rw [wl_s b l (fun i hi => hl i (by omega))] at ih
        rw [show b + l - b = l by omega]
        by_cases e3 : 7 ≤ l
        · rw [if_pos e3]
          rw [if_pos e3] at ih
          exact ih
        · rw [if_neg e3]
          rw [if_neg e3] at ih
          exact ih
theorem fv_s (b l : Nat) (hl : l < 3) (h : ∀ i, i < l + 1 → isFi (c (b + i))) : nI (fv c b (l + 1)) = 10 * nI (fv c b l) + c (b + l) - 48 ∧ nL (fv c b (l + 1)) = 10 * nL (fv c b l) + (c (b + l)).toInt64 - 48 := by
  have hlt := fv_lt c b l (fun i hi => h i (by omega))
  have hp : 10 ^ l ≤ 10 ^ 3 := Nat.pow_le_pow_right (by omega) (by omega)
  obtain ⟨h2, h3⟩ := h l (by omega)
  have hc : c (b + l) = nI (tn (c (b + l))) := tn_nI (show 0 ≤ (c (b + l)).toInt by omega)
  have ht : 48 ≤ tn (c (b + l)) := by unfold tn; omega
  have ht2 : tn (c (b + l)) ≤ 57 := by unfold tn; omega
  rw [fv]
  constructor
  · rw [hc, tn_of (by omega)]
    simp (disch := omega) only [n_z1, n_z2, n_z3, n_z4, n_z5, n_z6, n_z7, n_z8, n_leL, n_leR, n_ltL, n_ltR, n_eqL, n_eqR, n_m1R, n_addL, n_addR, n_mulL, n_mulR, n_subR, n_subL, n_add, n_mul, n_neg, n_sub, n_le, n_lt, n_eq, nI_clamp, if_true, if_false, if_pos, if_neg, or_false, false_or, not_false_eq_true, not_true_eq_false]
    congr 1
    omega
  · rw [hc, tn_of (by omega), nL_n (by omega), show (10 : Int64) = nL 10 from rfl, show (48 : Int64) = nL 48 from rfl, nL_mul, nL_add, nL_sub (by omega)]
    congr 1
    omega
theorem x_pf (hs : s = nI n) (hn : n ≤ 250) (hf : ∀ j, j < n → f j = c j) (b : Nat) (tk : Int32) : ∀ (k z l : Nat) (nu : Int32), n - (b + l) = k → k < z → b + l ≤ n → (∀ i, i < l → isFi (c (b + i))) → (l ≤ 3 → nu = nI (fv c b l)) →
    ∃ e nu', l ≤ e ∧ b + e ≤ n ∧ (∀ i, i < e → isFi (c (b + i))) ∧ (b + e < n → ¬ isFi (c (b + e))) ∧ g_X6_passFigures_5 250 (nI b) 1 s f z (nI (b + l)) tk nu = some (nI (b + e), if e ≤ 3 then 2 else 5, nu') ∧ (e ≤ 3 → nu' = nI (fv c b e))
  | _, 0, _, _, _, h, _, _, _ => absurd h (Nat.not_lt_zero _)
  | k, z + 1, l, nu, h1, h2, h3, h4, h5 => by
    have stop : g_X6_passFigures_90 250 (nI b) 1 s f (nI (b + l)) tk nu = some (nI (b + l), if l ≤ 3 then 2 else 5, nu) := by
      unfold g_X6_passFigures_90 g_X6_passFigures_109
      simp (disch := omega) only [n_z1, n_z2, n_z3, n_z4, n_z5, n_z6, n_z7, n_z8, n_leL, n_leR, n_ltL, n_ltR, n_eqL, n_eqR, n_m1R, n_addL, n_addR, n_mulL, n_mulR, n_subR, n_subL, n_add, n_mul, n_neg, n_sub, n_le, n_lt, n_eq, nI_clamp, if_true, if_false, if_pos, if_neg, or_false, false_or, not_false_eq_true, not_true_eq_false]
      rw [show b + l - b = l by omega]
      by_cases c1 : l ≤ 3
      · rw [if_pos c1, if_pos c1]
      · rw [if_neg c1, if_neg c1]
    rw [g_X6_passFigures_5]
    unfold g_X6_passFigures_5b g_X6_passFigures_77 g_X7_size
    rw [pb_some]
    by_cases e : n ≤ b + l
    · rw [if_pos (show s ≤ nI (b + l) by rw [hs]; simp (disch := omega) only [n_z1, n_z2, n_z3, n_z4, n_z5, n_z6, n_z7, n_z8, n_leL, n_leR, n_ltL, n_ltR, n_eqL, n_eqR, n_m1R, n_addL, n_addR, n_mulL, n_mulR, n_subR, n_subL, n_add, n_mul, n_neg, n_sub, n_le, n_lt, n_eq, nI_clamp, if_true, if_false, if_pos, if_neg, or_false, false_or, not_false_eq_true, not_true_eq_false]; omega), stop]
      exact ⟨l, nu, Nat.le_refl l, h3, h4, fun h => by omega, rfl, h5⟩
    · rw [if_neg (show ¬ s ≤ nI (b + l) by rw [hs]; simp (disch := omega) only [n_z1, n_z2, n_z3, n_z4, n_z5, n_z6, n_z7, n_z8, n_leL, n_leR, n_ltL, n_ltR, n_eqL, n_eqR, n_m1R, n_addL, n_addR, n_mulL, n_mulR, n_subR, n_subL, n_add, n_mul, n_neg, n_sub, n_le, n_lt, n_eq, nI_clamp, if_true, if_false, if_pos, if_neg, or_false, false_or, not_false_eq_true, not_true_eq_false]; omega), t_at hs hn hf (show b + l < n by omega), pb_some]
      obtain ⟨v, v1, ⟨v2, v3⟩ | ⟨v2, v3⟩⟩ := x_fig (c (b + l))
      · rw [v1, pb_some, if_pos v2, stop]
        exact ⟨l, nu, Nat.le_refl l, h3, h4, fun _ => v3, rfl, h5⟩
      · rw [v1, pb_some, if_neg (by rw [v2]; decide), pb_some, n_addR]
        have h4' : ∀ i, i < l + 1 → isFi (c (b + i)) := fun i hi => by
          by_cases c1 : i = l
          · rw [c1]; exact v3
          · exact h4 i (by omega)
        have hd : (3 ≤ nI (b + l) - nI b) = (3 ≤ l) := by simp (disch := omega) only [n_z1, n_z2, n_z3, n_z4, n_z5, n_z6, n_z7, n_z8, n_leL, n_leR, n_ltL, n_ltR, n_eqL, n_eqR, n_m1R, n_addL, n_addR, n_mulL, n_mulR, n_subR, n_subL, n_add, n_mul, n_neg, n_sub, n_le, n_lt, n_eq, nI_clamp, if_true, if_false, if_pos, if_neg, or_false, false_or, not_false_eq_true, not_true_eq_false]; apply propext; omega
        by_cases c3 : 3 ≤ l
        · rw [if_pos (by rw [hd]; exact c3)]
          obtain ⟨e2, nu', q1, q2, q3, q4, q5, q6⟩ := x_pf hs hn hf b tk (k - 1) z (l + 1) nu (by omega) (by omega) (by omega) h4' (fun h => by omega)
          exact ⟨e2, nu', by omega, q2, q3, q4, q5, q6⟩
        · rw [if_neg (by rw [hd]; exact c3)]
          obtain ⟨e2, nu', q1, q2, q3, q4, q5, q6⟩ := x_pf hs hn hf b tk (k - 1) z (l + 1) (10 * nu + c (b + l) - 48) (by omega) (by omega) (by omega) h4' (fun h => by rw [h5 (by omega)]; exact (fv_s b l (by omega) h4').1.symm)
          exact ⟨e2, nu', by omega, q2, q3, q4, q5, q6⟩
theorem m_pfg (hs : s' = nI n) (hn : n ≤ 250) (hg : ∀ j, j < n → g j = c j) (b e : Nat) (he : b + e ≤ n) (hl : ∀ i, i < e → isFi (c (b + i))) (hx : b + e < n → ¬ isFi (c (b + e))) : ∀ (k z l : Nat) (va : Int64), e - l = k → k < z → l ≤ e → (va = if l ≤ 3 then nL (fv c b l) else nL 100000) →
    g_X11_next_255 s' g z (nI (b + l)) (nI b) 2 va = some (nI (b + e), nI b, 2, if e ≤ 3 then nL (fv c b e) else nL 100000)
  | _, 0, _, _, _, h, _, _ => absurd h (Nat.not_lt_zero _)
  | k, z + 1, l, va, h1, h2, h3, h4 => by
    rw [g_X11_next_255]
    unfold g_X11_next_255b g_X11_next_332
    rw [if_pos rfl]
    by_cases e1 : e ≤ l
    · have : l = e := by omega
      subst this
      by_cases e2 : n ≤ b + l
      · rw [if_pos (show s' ≤ nI (b + l) by rw [hs]; simp (disch := omega) only [n_z1, n_z2, n_z3, n_z4, n_z5, n_z6, n_z7, n_z8, n_leL, n_leR, n_ltL, n_ltR, n_eqL, n_eqR, n_m1R, n_addL, n_addR, n_mulL, n_mulR, n_subR, n_subL, n_add, n_mul, n_neg, n_sub, n_le, n_lt, n_eq, nI_clamp, if_true, if_false, if_pos, if_neg, or_false, false_or, not_false_eq_true, not_true_eq_false]; omega), h4]
      · rw [if_neg (show ¬ s' ≤ nI (b + l) by rw [hs]; simp (disch := omega) only [n_z1, n_z2, n_z3, n_z4, n_z5, n_z6, n_z7, n_z8, n_leL, n_leR, n_ltL, n_ltR, n_eqL, n_eqR, n_m1R, n_addL, n_addR, n_mulL, n_mulR, n_subR, n_subL, n_add, n_mul, n_neg, n_sub, n_le, n_lt, n_eq, nI_clamp, if_true, if_false, if_pos, if_neg, or_false, false_or, not_false_eq_true, not_true_eq_false]; omega)]
        simp (disch := omega) only [n_z1, n_z2, n_z3, n_z4, n_z5, n_z6, n_z7, n_z8, n_leL, n_leR, n_ltL, n_ltR, n_eqL, n_eqR, n_m1R, n_addL, n_addR, n_mulL, n_mulR, n_subR, n_subL, n_add, n_mul, n_neg, n_sub, n_le, n_lt, n_eq, nI_clamp, if_true, if_false, if_pos, if_neg, or_false, false_or, not_false_eq_true, not_true_eq_false]
        rw [hg (b + l) (by omega)]
        obtain ⟨v, v1, ⟨v2, v3⟩ | ⟨v2, v3⟩⟩ := m_fig (c (b + l))
        · rw [v1, pb_some, if_pos v2, h4]
        · exact absurd v3 (hx (by omega))
    · rw [if_neg (show ¬ s' ≤ nI (b + l) by rw [hs]; simp (disch := omega) only [n_z1, n_z2, n_z3, n_z4, n_z5, n_z6, n_z7, n_z8, n_leL, n_leR, n_ltL, n_ltR, n_eqL, n_eqR, n_m1R, n_addL, n_addR, n_mulL, n_mulR, n_subR, n_subL, n_add, n_mul, n_neg, n_sub, n_le, n_lt, n_eq, nI_clamp, if_true, if_false, if_pos, if_neg, or_false, false_or, not_false_eq_true, not_true_eq_false]; omega)]
      simp (disch := omega) only [n_z1, n_z2, n_z3, n_z4, n_z5, n_z6, n_z7, n_z8, n_leL, n_leR, n_ltL, n_ltR, n_eqL, n_eqR, n_m1R, n_addL, n_addR, n_mulL, n_mulR, n_subR, n_subL, n_add, n_mul, n_neg, n_sub, n_le, n_lt, n_eq, nI_clamp, if_true, if_false, if_pos, if_neg, or_false, false_or, not_false_eq_true, not_true_eq_false]
      rw [hg (b + l) (by omega)]
      obtain ⟨v, v1, ⟨v2, v3⟩ | ⟨v2, v3⟩⟩ := m_fig (c (b + l))
      · exact absurd (hl l (by omega)) v3
      · rw [v1, pb_some, if_neg (by rw [v2]; decide)]
        have ih := fun va h => m_pfg hs hn hg b e he hl hx (k - 1) z (l + 1) va (by omega) (by omega) (by omega) h
        rw [show b + l - b = l by omega]
        by_cases e3 : 3 ≤ l
        · rw [if_pos e3]
          exact ih (nL 100000) (by rw [if_neg (by omega)])
        · rw [if_neg e3]
          refine ih _ ?_
          rw [if_pos (by omega), h4, if_pos (by omega)]
          exact (fv_s b l (by omega) (fun i hi => hl i (by omega))).2.symm
end
/-! THE TEXT OF A VALLEY: a token on both sides -/
section
variable {c f g : Nat → Int32} {n : Nat} {s s' : Int32}
theorem m_idle (kd : Int32) (h1 : kd ≠ 1) (h2 : kd ≠ 2) (a b : Int32) (va : Int64) : g_X11_next_161 s' g zF a b kd va = some (a, b, kd, va) := by
  rw [show zF = 65535 + 1 from rfl, g_X11_next_161]
  unfold g_X11_next_161b
  rw [if_neg h1, show zF = 65535 + 1 from rfl, g_X11_next_255]
  unfold g_X11_next_255b
  rw [if_neg h2]
theorem tok (hs : s = nI n) (hs' : s' = nI n) (hn : n ≤ 250) (hf : ∀ j, j < n → f j = c j) (hg : ∀ j, j < n → g j = c j) (hc : ∀ j, j < n → 0 ≤ (c j).toInt ∧ (c j).toInt ≤ 255) (tk fi nu be kd : Int32) (va : Int64) :
    ∀ (k z p : Nat), n - p = k → k < z → p ≤ n → ∃ b pl' tk' nu' at' kd' va', p ≤ b ∧ g_X6_advance_0 250 1 s f z (nI p) tk fi nu = some (pl', tk', nI b, nu') ∧ g_X11_next_0 s' g z (nI p) be kd va = some (at', nI b, kd', va') ∧ TR c n b pl' tk' (nI b) nu' at' (nI b) kd' va'
  | _, 0, _, _, h, _ => absurd h (Nat.not_lt_zero _)
  | k, z + 1, p, h1, h2, h3 => by
    rw [g_X6_advance_0, g_X11_next_0]
    unfold g_X6_advance_0b g_X11_next_0b g_X7_size
    rw [pb_some]
    by_cases e : n ≤ p
    · rw [if_pos (show s ≤ nI p by rw [hs]; simp (disch := omega) only [n_z1, n_z2, n_z3, n_z4, n_z5, n_z6, n_z7, n_z8, n_leL, n_leR, n_ltL, n_ltR, n_eqL, n_eqR, n_m1R, n_addL, n_addR, n_mulL, n_mulR, n_subR, n_subL, n_add, n_mul, n_neg, n_sub, n_le, n_lt, n_eq, nI_clamp, if_true, if_false, if_pos, if_neg, or_false, false_or, not_false_eq_true, not_true_eq_false]; omega), if_pos (show s' ≤ nI p by rw [hs']; simp (disch := omega) only [n_z1, n_z2, n_z3, n_z4, n_z5, n_z6, n_z7, n_z8, n_leL, n_leR, n_ltL, n_ltR, n_eqL, n_eqR, n_m1R, n_addL, n_addR, n_mulL, n_mulR, n_subR, n_subL, n_add, n_mul, n_neg, n_sub, n_le, n_lt, n_eq, nI_clamp, if_true, if_false, if_pos, if_neg, or_false, false_or, not_false_eq_true, not_true_eq_false]; omega)]
      have hp : p = n := by omega
      subst hp
      unfold g_X6_advance_44 g_X11_next_38 g_X11_next_75 g_X11_next_128 g_X11_next_157 g_X7_size
      rw [pb_some, if_neg (show ¬ nI p < s by rw [hs]; simp (disch := omega) only [n_z1, n_z2, n_z3, n_z4, n_z5, n_z6, n_z7, n_z8, n_leL, n_leR, n_ltL, n_ltR, n_eqL, n_eqR, n_m1R, n_addL, n_addR, n_mulL, n_mulR, n_subR, n_subL, n_add, n_mul, n_neg, n_sub, n_le, n_lt, n_eq, nI_clamp, if_true, if_false, if_pos, if_neg, or_false, false_or, not_false_eq_true, not_true_eq_false]; omega), if_pos (show s' ≤ nI p by rw [hs']; simp (disch := omega) only [n_z1, n_z2, n_z3, n_z4, n_z5, n_z6, n_z7, n_z8, n_leL, n_leR, n_ltL, n_ltR, n_eqL, n_eqR, n_m1R, n_addL, n_addR, n_mulL, n_mulR, n_subR, n_subL, n_add, n_mul, n_neg, n_sub, n_le, n_lt, n_eq, nI_clamp, if_true, if_false, if_pos, if_neg, or_false, false_or, not_false_eq_true, not_true_eq_false]; omega), if_neg (show ¬ (0 : Int32) ≤ -1 by decide), if_neg (show ¬ (0 : Int32) = 3 by decide), if_neg (show ¬ (0 : Int32) = 4 by decide), m_idle 0 (by decide) (by decide)]
      exact ⟨p, _, _, _, _, _, _, Nat.le_refl p, rfl, rfl, rfl, rfl, Nat.le_refl p, Or.inl ⟨rfl, rfl⟩⟩
    · have hp : p < n := by omega
      have hcp := hc p hp
      rw [if_neg (show ¬ s ≤ nI p by rw [hs]; simp (disch := omega) only [n_z1, n_z2, n_z3, n_z4, n_z5, n_z6, n_z7, n_z8, n_leL, n_leR, n_ltL, n_ltR, n_eqL, n_eqR, n_m1R, n_addL, n_addR, n_mulL, n_mulR, n_subR, n_subL, n_add, n_mul, n_neg, n_sub, n_le, n_lt, n_eq, nI_clamp, if_true, if_false, if_pos, if_neg, or_false, false_or, not_false_eq_true, not_true_eq_false]; omega), if_neg (show ¬ s' ≤ nI p by rw [hs']; simp (disch := omega) only [n_z1, n_z2, n_z3, n_z4, n_z5, n_z6, n_z7, n_z8, n_leL, n_leR, n_ltL, n_ltR, n_eqL, n_eqR, n_m1R, n_addL, n_addR, n_mulL, n_mulR, n_subR, n_subL, n_add, n_mul, n_neg, n_sub, n_le, n_lt, n_eq, nI_clamp, if_true, if_false, if_pos, if_neg, or_false, false_or, not_false_eq_true, not_true_eq_false]; omega), t_at hs hn hf hp, pb_some]
      rw [if_neg (show ¬ (nI p < 0 ∨ 250 ≤ (nI p).toNatClampNeg) by simp (disch := omega) only [n_z1, n_z2, n_z3, n_z4, n_z5, n_z6, n_z7, n_z8, n_leL, n_leR, n_ltL, n_ltR, n_eqL, n_eqR, n_m1R, n_addL, n_addR, n_mulL, n_mulR, n_subR, n_subL, n_add, n_mul, n_neg, n_sub, n_le, n_lt, n_eq, nI_clamp, if_true, if_false, if_pos, if_neg, or_false, false_or, not_false_eq_true, not_true_eq_false]; omega), nI_clamp (by omega), hg p hp]
      by_cases e1 : c p = 32
      · rw [if_pos e1, if_pos e1, n_addR]
        obtain ⟨b, pl', tk', nu', at', kd', va', q1, q2, q3, q4⟩ := tok hs hs' hn hf hg hc tk fi nu be kd va (k - 1) z (p + 1) (by omega) (by omega) (by omega)
        exact ⟨b, pl', tk', nu', at', kd', va', by omega, q2, q3, q4⟩
      · rw [if_neg e1, if_neg e1]
        have h0 : (0 : Int32) ≤ c p := by rw [Int32.le_iff_toInt_le]; exact hcp.1
        unfold g_X6_advance_44 g_X11_next_38 g_X11_next_75 g_X7_size
        rw [pb_some, if_pos (show nI p < s by rw [hs]; simp (disch := omega) only [n_z1, n_z2, n_z3, n_z4, n_z5, n_z6, n_z7, n_z8, n_leL, n_leR, n_ltL, n_ltR, n_eqL, n_eqR, n_m1R, n_addL, n_addR, n_mulL, n_mulR, n_subR, n_subL, n_add, n_mul, n_neg, n_sub, n_le, n_lt, n_eq, nI_clamp, if_true, if_false, if_pos, if_neg, or_false, false_or, not_false_eq_true, not_true_eq_false]; omega), t_at hs hn hf hp, pb_some, if_neg (show ¬ s' ≤ nI p by rw [hs']; simp (disch := omega) only [n_z1, n_z2, n_z3, n_z4, n_z5, n_z6, n_z7, n_z8, n_leL, n_leR, n_ltL, n_ltR, n_eqL, n_eqR, n_m1R, n_addL, n_addR, n_mulL, n_mulR, n_subR, n_subL, n_add, n_mul, n_neg, n_sub, n_le, n_lt, n_eq, nI_clamp, if_true, if_false, if_pos, if_neg, or_false, false_or, not_false_eq_true, not_true_eq_false]; omega), if_neg (show ¬ (nI p < 0 ∨ 250 ≤ (nI p).toNatClampNeg) by simp (disch := omega) only [n_z1, n_z2, n_z3, n_z4, n_z5, n_z6, n_z7, n_z8, n_leL, n_leR, n_ltL, n_ltR, n_eqL, n_eqR, n_m1R, n_addL, n_addR, n_mulL, n_mulR, n_subR, n_subL, n_add, n_mul, n_neg, n_sub, n_le, n_lt, n_eq, nI_clamp, if_true, if_false, if_pos, if_neg, or_false, false_or, not_false_eq_true, not_true_eq_false]; omega), nI_clamp (by omega), hg p hp, if_pos h0]
        obtain ⟨v, v1, hv⟩ := x_let (c p)
        obtain ⟨u, u1, hu⟩ := m_let (c p)
        rw [v1, u1, pb_some, pb_some]
        by_cases e2 : isLe (c p)
        · have hv1 : ¬ v = 0 := by rcases hv with ⟨_, q⟩ | ⟨q, _⟩; exact absurd e2 q; rw [q]; decide
          have hu1 : ¬ u = 0 := by rcases hu with ⟨_, q⟩ | ⟨q, _⟩; exact absurd e2 q; rw [q]; decide
          rw [if_neg hv1, if_neg hu1]
          obtain ⟨l, l1, l2, l3, l4, l5⟩ := x_pw hs hn hf p tk (n - p) zF 0 (by omega) (by show _ < 65536; omega) (by omega) (fun i hi => by omega)
          have hl0 : 0 < l := by
            rcases Nat.eq_zero_or_pos l with q | q
            · exact absurd e2 (by have := l4 (by omega); rw [q] at this; exact this)
            · exact q
          have l5' : g_X6_passWord 250 1 s f (nI p) tk = some (nI (p + l), 1) := l5
          have m5 := m_pw hs' hn hg p l l2 l3 l4 l zF 0 rfl (by show _ < 65536; omega) (by omega)
          have m5' : g_X11_next_161 s' g zF (nI p) (nI p) 1 0 = some (nI (p + l), nI p, 1, wl c p l) := m5
          unfold g_X11_next_128 g_X11_next_157
          rw [l5', pb_some, if_neg (show ¬ (1 : Int32) = 3 by decide), if_neg (show ¬ (1 : Int32) = 4 by decide), show nI p + 0 = nI p from n_z8, m5']
          exact ⟨p, _, _, _, _, _, _, Nat.le_refl p, rfl, rfl, rfl, rfl, by omega, Or.inr (Or.inl ⟨hp, rfl, rfl, l, hl0, l2, rfl, rfl, l3, rfl⟩)⟩
        · have hv0 : v = 0 := by rcases hv with ⟨q, _⟩ | ⟨_, q⟩; exact q; exact absurd q e2
          have hu0 : u = 0 := by rcases hu with ⟨q, _⟩ | ⟨_, q⟩; exact q; exact absurd q e2
          rw [if_pos hv0, if_pos hu0]
          obtain ⟨v, v1, hv⟩ := x_fig (c p)
          obtain ⟨u, u1, hu⟩ := m_fig (c p)
          rw [v1, u1, pb_some, pb_some]
          by_cases e3 : isFi (c p)
          · have hv1 : ¬ v = 0 := by rcases hv with ⟨_, q⟩ | ⟨q, _⟩; exact absurd e3 q; rw [q]; decide
            have hu1 : ¬ u = 0 := by rcases hu with ⟨_, q⟩ | ⟨q, _⟩; exact absurd e3 q; rw [q]; decide
            rw [if_neg hv1, if_neg hu1]
            obtain ⟨l, nu', l1, l2, l3, l4, l5, l6⟩ := x_pf hs hn hf p tk (n - p) zF 0 0 (by omega) (by show _ < 65536; omega) (by omega) (fun i hi => by omega) (fun _ => rfl)
            have hl0 : 0 < l := by
              rcases Nat.eq_zero_or_pos l with q | q
              · exact absurd e3 (by have := l4 (by omega); rw [q] at this; exact this)
              · exact q
            have l5' : g_X6_passFigures 250 (nI p) 1 s f (nI p) tk nu = some (nI (p + l), if l ≤ 3 then 2 else 5, nu') := l5
            have m5 := m_pfg hs' hn hg p l l2 l3 l4 l zF 0 0 rfl (by show _ < 65536; omega) (by omega) (by rw [if_pos (by omega)]; rfl)
            have m5' : g_X11_next_161 s' g zF (nI p) (nI p) 2 0 = some (nI (p + l), nI p, 2, if l ≤ 3 then nL (fv c p l) else nL 100000) := by
              rw [show zF = 65535 + 1 from rfl, g_X11_next_161]
              unfold g_X11_next_161b
              rw [if_neg (show ¬ (2 : Int32) = 1 by decide)]
              exact m5
            unfold g_X11_next_128 g_X11_next_157
            rw [l5', pb_some, if_neg (show ¬ (2 : Int32) = 3 by decide), if_neg (show ¬ (2 : Int32) = 4 by decide), show nI p + 0 = nI p from n_z8, m5']
            by_cases e4 : l ≤ 3
            · rw [if_pos e4, if_pos e4]
              have hlt := fv_lt c p l l3
              have hp3 : 10 ^ l ≤ 10 ^ 3 := Nat.pow_le_pow_right (by omega) e4
              exact ⟨p, _, _, _, _, _, _, Nat.le_refl p, rfl, rfl, rfl, rfl, by omega, Or.inr (Or.inr (Or.inl ⟨hp, rfl, rfl, l, fv c p l, hl0, l2, rfl, rfl, l6 e4, rfl, by omega⟩))⟩
            · rw [if_neg e4, if_neg e4]
              exact ⟨p, _, _, _, _, _, _, Nat.le_refl p, rfl, rfl, rfl, rfl, by omega, Or.inr (Or.inr (Or.inr (Or.inl ⟨hp, rfl, rfl, rfl⟩)))⟩
          · have hv0 : v = 0 := by rcases hv with ⟨q, _⟩ | ⟨_, q⟩; exact q; exact absurd q e3
            have hu0 : u = 0 := by rcases hu with ⟨q, _⟩ | ⟨_, q⟩; exact q; exact absurd q e3
            rw [if_pos hv0, if_pos hu0]
            unfold g_X6_advance_135 g_X11_next_128 g_X11_next_152 g_X11_next_157
            by_cases e4 : c p = 45
            · rw [if_pos e4, if_pos e4, if_pos rfl, n_addR, m_idle 3 (by decide) (by decide)]
              exact ⟨p, _, _, _, _, _, _, Nat.le_refl p, rfl, rfl, rfl, rfl, by omega, Or.inr (Or.inr (Or.inr (Or.inr (Or.inl ⟨hp, rfl, rfl, rfl, rfl⟩))))⟩
            · rw [if_neg e4, if_neg e4]
              by_cases e5 : c p = 59
              · rw [if_pos e5, if_pos e5, if_neg (show ¬ (4 : Int32) = 3 by decide), if_pos (show (4 : Int32) = 4 from rfl), n_addR, m_idle 4 (by decide) (by decide)]
                exact ⟨p, _, _, _, _, _, _, Nat.le_refl p, rfl, rfl, rfl, rfl, by omega, Or.inr (Or.inr (Or.inr (Or.inr (Or.inr (Or.inl ⟨hp, rfl, rfl, rfl, rfl⟩)))))⟩
              · rw [if_neg e5, if_neg e5, if_neg (show ¬ (5 : Int32) = 3 by decide), if_neg (show ¬ (5 : Int32) = 4 by decide), m_idle 5 (by decide) (by decide)]
                exact ⟨p, _, _, _, _, _, _, Nat.le_refl p, rfl, rfl, rfl, rfl, by omega, Or.inr (Or.inr (Or.inr (Or.inr (Or.inr (Or.inr ⟨hp, rfl, rfl⟩)))))⟩
end
/-- the seven words -/
def wn (k : Nat) : Nat := ([4, 5, 3, 6, 4, 3, 5] : List Nat).getD k 0
def wc (k i : Nat) : Nat := (([[102, 97, 115, 116], [115, 111, 110, 103, 115], [98, 101, 100], [112, 101, 114, 115, 111, 110], [116, 97, 108, 107], [100, 117, 101], [115, 105, 103, 104, 116]] : List (List Nat)).getD k []).getD i 97
def wh (k : Nat) : Nat := ([198260, 20429043, 2212, 542723566, 656779, 4773, 20225300] : List Nat).getD k 0
theorem w_len {k : Nat} (hk : k < 7) : g_J0_length_8abf5 k = some (nI (wn k)) := by
  have h : ∀ k : Fin 7, g_J0_length_8abf5 k.val = some (nI (wn k.val)) := by decide +kernel
  exact h ⟨k, hk⟩
theorem w_chr {k i : Nat} (hk : k < 7) (hi : i < wn k) : g_J0_charAt_5068e k (nI i) = some (nI (wc k i)) := by
  have h : ∀ k : Fin 7, ∀ i : Fin 6, i.val < wn k.val → g_J0_charAt_5068e k.val (nI i.val) = some (nI (wc k.val i.val)) := by decide +kernel
  have hn : wn k ≤ 6 := by
    have : ∀ k : Fin 7, wn k.val ≤ 6 := by decide
    exact this ⟨k, hk⟩
  exact h ⟨k, hk⟩ ⟨i, by omega⟩ hi
