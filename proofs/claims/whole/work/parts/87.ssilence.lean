/-! STEPS: silence -/
section
variable {la lb wa wb fee : Int32} {n d : Nat} {w : Nat → Int32}
abbrev KS := Int32 → Int32 → (Nat → Int32) → (Nat → Int32) → (Nat → Int32) → (Nat → Int32) → Option (Int32 × (Nat → Int32) × (Nat → Int32) × (Nat → Int32) × (Nat → Int32))
abbrev KR := Int32 → (Nat → Int32) → (Nat → Int32) → (Nat → Int32) → (Nat → Int32) → Option (Int32 × (Nat → Int32) × (Nat → Int32) × (Nat → Int32) × (Nat → Int32))
theorem n_mod2 {m : Nat} (hm : m < 1000) : nI m - nI m / 2 * 2 = nI (m % 2) := by
  rw [show (2 : Int32) = nI 2 from rfl, n_div (by omega) (by omega) (by omega)]
  simp (disch := omega) only [n_z1, n_z2, n_z3, n_z4, n_z5, n_z6, n_z7, n_z8, n_leL, n_leR, n_ltL, n_ltR, n_eqL, n_eqR, n_m1R, n_addL, n_addR, n_mulL, n_mulR, n_subR, n_subL, n_add, n_mul, n_neg, n_sub, n_le, n_lt, n_eq, nI_clamp, if_true, if_false, if_pos, if_neg, or_false, false_or, not_false_eq_true, not_true_eq_false]
  congr 1
  omega
theorem upd2 (f : Nat → Int32) (k : Nat) (x y : Int32) : upd (upd f k x) k y = upd f k y := by
  funext j
  rw [upd_eq, upd_eq, upd_eq]
  by_cases c : j = k
  · rw [if_pos c, if_pos c]
  · rw [if_neg c, if_neg c, if_neg c]
theorem m_367 (x1 x2 x3 : Int32) (k44 : KR) (k52 : KS) (x4 x5 : Int32) (k : Nat) (hk : k < 861) (y : Int32) (R T B A : Nat → Int32) : g_X11_silence_367 w x1 x2 x3 k44 k52 x4 x5 (nI k) y R T B A = k52 x4 (x5 + 1) R T (upd B k y) A := by
  unfold g_X11_silence_367 g_X11_silence_368
  simp (disch := omega) only [n_z1, n_z2, n_z3, n_z4, n_z5, n_z6, n_z7, n_z8, n_leL, n_leR, n_ltL, n_ltR, n_eqL, n_eqR, n_m1R, n_addL, n_addR, n_mulL, n_mulR, n_subR, n_subL, n_add, n_mul, n_neg, n_sub, n_le, n_lt, n_eq, nI_clamp, if_true, if_false, if_pos, if_neg, or_false, false_or, not_false_eq_true, not_true_eq_false]
theorem m_308 (x1 x2 x3 : Int32) (k44 : KR) (k52 : KS) (x4 x5 : Int32) (k m : Nat) (hk : k + 22 < 861) (y : Int32) (R T B A : Nat → Int32) : g_X11_silence_308 w x1 x2 x3 k44 k52 x4 x5 (nI k) (par m) (nI (k + 21)) (nI (k + 22)) (nI k) y R T B A =
    k52 x4 (x5 + 1) R T (upd B k (if T k = 0 then B (k + 21) - w 9 else B (k + 22) - (if m % 2 = 0 then 0 else w 12))) (upd A k y) := by
  unfold g_X11_silence_308 g_X11_silence_348 par
  simp (disch := omega) only [n_z1, n_z2, n_z3, n_z4, n_z5, n_z6, n_z7, n_z8, n_leL, n_leR, n_ltL, n_ltR, n_eqL, n_eqR, n_m1R, n_addL, n_addR, n_mulL, n_mulR, n_subR, n_subL, n_add, n_mul, n_neg, n_sub, n_le, n_lt, n_eq, nI_clamp, if_true, if_false, if_pos, if_neg, or_false, false_or, not_false_eq_true, not_true_eq_false]
  by_cases c : T k = 0
  · rw [if_pos c, if_pos c, m_367 _ _ _ _ _ _ _ k (by omega)]
  · rw [if_neg c, if_neg c, m_367 _ _ _ _ _ _ _ k (by omega), m_367 _ _ _ _ _ _ _ k (by omega)]
    by_cases e : m % 2 = 0
    · rw [if_pos e, if_pos e, if_neg (by decide)]
    · rw [if_neg e, if_neg e, if_pos rfl]
theorem m_249 (x1 x2 x3 : Int32) (k44 : KR) (k52 : KS) (x4 x5 : Int32) (k m : Nat) (hk : k + 22 < 861) (b : Bool) (R T B A : Nat → Int32) : g_X11_silence_249 w x1 x2 x3 k44 k52 x4 x5 (nI k) (par m) (nI (k + 21)) (nI (k + 22)) (nI k) (if b = true then 1 else 0) R T B A =
    k52 x4 (x5 + 1) R (upd T k (if b = true then 1 else 0)) (upd B k (if b = true then B (k + 22) - (if m % 2 = 0 then 0 else w 12) else B (k + 21) - w 9)) (upd A k (if b = true then A (k + 22) - (if m % 2 = 0 then w 12 else 0) else A (k + 21) - w 8)) := by
  have hv : vp_nar .boolean (if b = true then 1 else 0) = (if b = true then 1 else 0) := by cases b <;> rfl
  unfold g_X11_silence_249 g_X11_silence_289
  rw [hv]
  rw [nI_clamp (show k < 2 ^ 31 by omega)]
  rw [upd_eq, if_pos rfl, if_neg (show ¬ (nI k < 0 ∨ 861 ≤ k) by simp (disch := omega) only [n_z1, n_z2, n_z3, n_z4, n_z5, n_z6, n_z7, n_z8, n_leL, n_leR, n_ltL, n_ltR, n_eqL, n_eqR, n_m1R, n_addL, n_addR, n_mulL, n_mulR, n_subR, n_subL, n_add, n_mul, n_neg, n_sub, n_le, n_lt, n_eq, nI_clamp, if_true, if_false, if_pos, if_neg, or_false, false_or, not_false_eq_true, not_true_eq_false]; omega), if_neg (show ¬ (nI k < 0 ∨ 861 ≤ k) by simp (disch := omega) only [n_z1, n_z2, n_z3, n_z4, n_z5, n_z6, n_z7, n_z8, n_leL, n_leR, n_ltL, n_ltR, n_eqL, n_eqR, n_m1R, n_addL, n_addR, n_mulL, n_mulR, n_subR, n_subL, n_add, n_mul, n_neg, n_sub, n_le, n_lt, n_eq, nI_clamp, if_true, if_false, if_pos, if_neg, or_false, false_or, not_false_eq_true, not_true_eq_false]; omega)]
  rw [m_308 _ _ _ _ _ _ _ k m hk, m_308 _ _ _ _ _ _ _ k m hk, m_308 _ _ _ _ _ _ _ k m hk]
  simp (disch := omega) only [n_z1, n_z2, n_z3, n_z4, n_z5, n_z6, n_z7, n_z8, n_leL, n_leR, n_ltL, n_ltR, n_eqL, n_eqR, n_m1R, n_addL, n_addR, n_mulL, n_mulR, n_subR, n_subL, n_add, n_mul, n_neg, n_sub, n_le, n_lt, n_eq, nI_clamp, if_true, if_false, if_pos, if_neg, or_false, false_or, not_false_eq_true, not_true_eq_false]
  rw [upd_eq, if_pos rfl]
  cases b
  · simp
  · simp
    unfold par
    by_cases e : m % 2 = 0
    · simp [e]
    · simp [e]
theorem m_143 (h9 : w 9 = lb) (h8 : w 8 = la) (h12 : w 12 = fee) (x1 x2 x3 : Int32) (k44 : KR) (k52 : KS) (x4 x5 : Int32) (k m : Nat) (hk : k + 22 < 861) (R T B A : Nat → Int32) : g_X11_silence_143 w x1 x2 x3 k44 k52 x4 x5 (nI k) (par m) R T B A =
    k52 x4 (x5 + 1) R (upd T k (if qt la lb fee m (A (k + 21), B (k + 21)) (A (k + 22), B (k + 22)) = true then 1 else 0)) (upd B k (qn la lb fee m (A (k + 21), B (k + 21)) (A (k + 22), B (k + 22))).2) (upd A k (qn la lb fee m (A (k + 21), B (k + 21)) (A (k + 22), B (k + 22))).1) := by
  subst h8 h9 h12
  have q := m_249 (w := w) x1 x2 x3 k44 k52 x4 x5 k m hk (qt (w 8) (w 9) (w 12) m (A (k + 21), B (k + 21)) (A (k + 22), B (k + 22))) R T B A
  have e2 : k52 x4 (x5 + 1) R (upd T k (if qt (w 8) (w 9) (w 12) m (A (k + 21), B (k + 21)) (A (k + 22), B (k + 22)) = true then 1 else 0)) (upd B k (qn (w 8) (w 9) (w 12) m (A (k + 21), B (k + 21)) (A (k + 22), B (k + 22))).2) (upd A k (qn (w 8) (w 9) (w 12) m (A (k + 21), B (k + 21)) (A (k + 22), B (k + 22))).1) = g_X11_silence_249 w x1 x2 x3 k44 k52 x4 x5 (nI k) (par m) (nI (k + 21)) (nI (k + 22)) (nI k) (if qt (w 8) (w 9) (w 12) m (A (k + 21), B (k + 21)) (A (k + 22), B (k + 22)) = true then 1 else 0) R T B A := by
    rw [q]
    unfold qn
    split <;> rfl
  rw [e2]
  clear e2 q
  unfold g_X11_silence_143 g_X11_silence_197 g_X11_silence_221 qt
  by_cases e : m % 2 = 0
  · have hp : par m = 1 := by unfold par; rw [if_pos e]
    simp only [hp, if_pos e]
    simp (disch := omega) only [n_z1, n_z2, n_z3, n_z4, n_z5, n_z6, n_z7, n_z8, n_leL, n_leR, n_ltL, n_ltR, n_eqL, n_eqR, n_m1R, n_addL, n_addR, n_mulL, n_mulR, n_subR, n_subL, n_add, n_mul, n_neg, n_sub, n_le, n_lt, n_eq, nI_clamp, if_true, if_false, if_pos, if_neg, or_false, false_or, not_false_eq_true, not_true_eq_false]
    by_cases c : A (k + 21) - w 8 < A (k + 22) - w 12
    · rw [if_neg (Int32.not_le.mpr c)]; simp [c]
    · rw [if_pos (Int32.not_lt.mp c)]; simp [c]
  · have hp : par m = 0 := by unfold par; rw [if_neg e]
    simp only [hp, if_neg e]
    simp (disch := omega) only [n_z1, n_z2, n_z3, n_z4, n_z5, n_z6, n_z7, n_z8, n_leL, n_leR, n_ltL, n_ltR, n_eqL, n_eqR, n_m1R, n_addL, n_addR, n_mulL, n_mulR, n_subR, n_subL, n_add, n_mul, n_neg, n_sub, n_le, n_lt, n_eq, nI_clamp, if_true, if_false, if_pos, if_neg, or_false, false_or, not_false_eq_true, not_true_eq_false]
    by_cases c : B (k + 21) - w 9 < B (k + 22) - w 12
    · rw [if_neg (Int32.not_le.mpr c)]; simp [c]
    · rw [if_pos (Int32.not_lt.mp c)]; simp [c]
def MQS (la lb wa wb fee : Int32) (n d m g : Nat) (A B T : Nat → Int32) : Prop := ∀ m', m' ≤ n → ∀ g', g' ≤ d → (m < m' ∨ m' = m ∧ g' < g) → A (21 * m' + g') = (qv la lb wa wb fee n d (n - m') g').1 ∧ B (21 * m' + g') = (qv la lb wa wb fee n d (n - m') g').2 ∧ (m' < n → g' < d → T (21 * m' + g') = if qT la lb wa wb fee n d m' g' = true then 1 else 0)
theorem mq_upd {m g : Nat} {A B T A' B' T' : Nat → Int32} (hd : d ≤ 20) (hm : m ≤ n) (hg : g ≤ d) (h : MQS la lb wa wb fee n d m g A B T) (ho : ∀ i, i ≠ 21 * m + g → A' i = A i ∧ B' i = B i ∧ T' i = T i)
    (h1 : A' (21 * m + g) = (qv la lb wa wb fee n d (n - m) g).1 ∧ B' (21 * m + g) = (qv la lb wa wb fee n d (n - m) g).2 ∧ (m < n → g < d → T' (21 * m + g) = if qT la lb wa wb fee n d m g = true then 1 else 0)) : MQS la lb wa wb fee n d m (g + 1) A' B' T' := by
  intro m' hm' g' hg' hlt
  by_cases c : 21 * m' + g' = 21 * m + g
  · have c1 : m' = m := by omega
    have c2 : g' = g := by omega
    subst c1 c2
    exact h1
  · obtain ⟨a1, a2, a3⟩ := ho _ c
    rw [a1, a2, a3]
    exact h m' hm' g' hg' (by omega)
theorem m_52 (h8 : w 8 = la) (h9 : w 9 = lb) (h10 : w 10 = wa) (h11 : w 11 = wb) (h12 : w 12 = fee) (hn : n ≤ 40) (hd : d ≤ 20) (x3 : Int32) (k44 : KR) (m : Nat) (hm : m ≤ n) (R : Nat → Int32) :
    ∀ (j z g : Nat) (A B T : Nat → Int32), d + 1 - g = j → j < z → g ≤ d + 1 → MQS la lb wa wb fee n d m g A B T → ∃ T' B' A', g_X11_silence_52 w (nI n) (nI d) x3 k44 z (nI m) (nI g) R T B A = k44 (nI m - 1) R T' B' A' ∧ MQS la lb wa wb fee n d m (d + 1) A' B' T'
  | _, 0, _, _, _, _, _, h, _, _ => absurd h (Nat.not_lt_zero _)
  | j, z + 1, g, A, B, T, h1, h2, h3, h4 => by
    rw [g_X11_silence_52]
    unfold g_X11_silence_52b
    by_cases e : d < g
    · rw [if_pos (show nI d < nI g by simp (disch := omega) only [n_z1, n_z2, n_z3, n_z4, n_z5, n_z6, n_z7, n_z8, n_leL, n_leR, n_ltL, n_ltR, n_eqL, n_eqR, n_m1R, n_addL, n_addR, n_mulL, n_mulR, n_subR, n_subL, n_add, n_mul, n_neg, n_sub, n_le, n_lt, n_eq, nI_clamp, if_true, if_false, if_pos, if_neg, or_false, false_or, not_false_eq_true, not_true_eq_false]; omega), n_neg]
      rw [show g = d + 1 by omega] at h4
      exact ⟨T, B, A, rfl, h4⟩
    · rw [if_neg (show ¬ nI d < nI g by simp (disch := omega) only [n_z1, n_z2, n_z3, n_z4, n_z5, n_z6, n_z7, n_z8, n_leL, n_leR, n_ltL, n_ltR, n_eqL, n_eqR, n_m1R, n_addL, n_addR, n_mulL, n_mulR, n_subR, n_subL, n_add, n_mul, n_neg, n_sub, n_le, n_lt, n_eq, nI_clamp, if_true, if_false, if_pos, if_neg, or_false, false_or, not_false_eq_true, not_true_eq_false]; omega)]
      have hk : 21 * nI m + nI g = nI (21 * m + g) := by simp (disch := omega) only [n_z1, n_z2, n_z3, n_z4, n_z5, n_z6, n_z7, n_z8, n_leL, n_leR, n_ltL, n_ltR, n_eqL, n_eqR, n_m1R, n_addL, n_addR, n_mulL, n_mulR, n_subR, n_subL, n_add, n_mul, n_neg, n_sub, n_le, n_lt, n_eq, nI_clamp, if_true, if_false, if_pos, if_neg, or_false, false_or, not_false_eq_true, not_true_eq_false]
      rw [hk]
      unfold g_X11_silence_91 g_X11_silence_115 g_X11_silence_368
      have hg1 : nI g + 1 = nI (g + 1) := by simp (disch := omega) only [n_z1, n_z2, n_z3, n_z4, n_z5, n_z6, n_z7, n_z8, n_leL, n_leR, n_ltL, n_ltR, n_eqL, n_eqR, n_m1R, n_addL, n_addR, n_mulL, n_mulR, n_subR, n_subL, n_add, n_mul, n_neg, n_sub, n_le, n_lt, n_eq, nI_clamp, if_true, if_false, if_pos, if_neg, or_false, false_or, not_false_eq_true, not_true_eq_false]
      by_cases c : g = d
      · rw [if_pos (show nI g = nI d by rw [c])]
        simp (disch := omega) only [n_z1, n_z2, n_z3, n_z4, n_z5, n_z6, n_z7, n_z8, n_leL, n_leR, n_ltL, n_ltR, n_eqL, n_eqR, n_m1R, n_addL, n_addR, n_mulL, n_mulR, n_subR, n_subL, n_add, n_mul, n_neg, n_sub, n_le, n_lt, n_eq, nI_clamp, if_true, if_false, if_pos, if_neg, or_false, false_or, not_false_eq_true, not_true_eq_false, h10, h11, hg1]
        refine m_52 h8 h9 h10 h11 h12 hn hd x3 k44 m hm R (j - 1) z (g + 1) _ _ _ (by omega) (by omega) (by omega) (mq_upd hd hm (by omega) h4 (fun i hi => ?_) ?_)
        · rw [upd_eq, upd_eq, if_neg hi, if_neg hi]; exact ⟨rfl, rfl, rfl⟩
        · rw [upd_eq, upd_eq, if_pos rfl, if_pos rfl, c, qv_d]; exact ⟨rfl, rfl, fun _ h => by omega⟩
      · rw [if_neg (show ¬ nI g = nI d by simp (disch := omega) only [n_z1, n_z2, n_z3, n_z4, n_z5, n_z6, n_z7, n_z8, n_leL, n_leR, n_ltL, n_ltR, n_eqL, n_eqR, n_m1R, n_addL, n_addR, n_mulL, n_mulR, n_subR, n_subL, n_add, n_mul, n_neg, n_sub, n_le, n_lt, n_eq, nI_clamp, if_true, if_false, if_pos, if_neg, or_false, false_or, not_false_eq_true, not_true_eq_false]; exact c)]
        by_cases c2 : m = n
        · simp (disch := omega) only [n_z1, n_z2, n_z3, n_z4, n_z5, n_z6, n_z7, n_z8, n_leL, n_leR, n_ltL, n_ltR, n_eqL, n_eqR, n_m1R, n_addL, n_addR, n_mulL, n_mulR, n_subR, n_subL, n_add, n_mul, n_neg, n_sub, n_le, n_lt, n_eq, nI_clamp, if_true, if_false, if_pos, if_neg, or_false, false_or, not_false_eq_true, not_true_eq_false, hg1]
          refine m_52 h8 h9 h10 h11 h12 hn hd x3 k44 m hm R (j - 1) z (g + 1) _ _ _ (by omega) (by omega) (by omega) (mq_upd hd hm (by omega) h4 (fun i hi => ?_) ?_)
          · rw [upd_eq, upd_eq, if_neg hi, if_neg hi]; exact ⟨rfl, rfl, rfl⟩
          · rw [upd_eq, upd_eq, if_pos rfl, if_pos rfl, show n - m = 0 by omega, qv, if_neg c]; exact ⟨rfl, rfl, fun h => by omega⟩
        · have key : ∀ P, P = par m → ∃ T' B' A', g_X11_silence_143 w (nI n) (nI d) x3 k44 (g_X11_silence_52 w (nI n) (nI d) x3 k44 z) (nI m) (nI g) (nI (21 * m + g)) P R T (upd B (21 * m + g) 0) (upd A (21 * m + g) 0) = k44 (nI m - 1) R T' B' A' ∧ MQS la lb wa wb fee n d m (d + 1) A' B' T' := by
            intro P hP
            rw [hP, m_143 h9 h8 h12 _ _ _ _ _ _ _ (21 * m + g) m (by omega), hg1]
            have q1 := h4 (m + 1) (by omega) g (by omega) (by omega)
            have q2 := h4 (m + 1) (by omega) (g + 1) (by omega) (by omega)
            have u21 : ∀ (f : Nat → Int32) (x : Int32), upd f (21 * m + g) x (21 * m + g + 21) = f (21 * m + g + 21) := fun f x => by rw [upd_eq, if_neg (by omega)]
            have u22 : ∀ (f : Nat → Int32) (x : Int32), upd f (21 * m + g) x (21 * m + g + 22) = f (21 * m + g + 22) := fun f x => by rw [upd_eq, if_neg (by omega)]
            rw [u21, u21, u22, u22, upd2, upd2]
            rw [show 21 * (m + 1) + g = 21 * m + g + 21 by omega, show n - (m + 1) = n - m - 1 by omega] at q1
            rw [show 21 * (m + 1) + (g + 1) = 21 * m + g + 22 by omega, show n - (m + 1) = n - m - 1 by omega] at q2
            have p1 : (A (21 * m + g + 21), B (21 * m + g + 21)) = qv la lb wa wb fee n d (n - m - 1) g := by rw [q1.1, q1.2.1]
            have p2 : (A (21 * m + g + 22), B (21 * m + g + 22)) = qv la lb wa wb fee n d (n - m - 1) (g + 1) := by rw [q2.1, q2.2.1]
            rw [p1, p2]
            refine m_52 h8 h9 h10 h11 h12 hn hd x3 k44 m hm R (j - 1) z (g + 1) _ _ _ (by omega) (by omega) (by omega) (mq_upd hd hm (by omega) h4 (fun i hi => ?_) ?_)
            · rw [upd_eq, upd_eq, upd_eq, if_neg hi, if_neg hi, if_neg hi]; exact ⟨rfl, rfl, rfl⟩
            · rw [upd_eq, upd_eq, upd_eq, if_pos rfl, if_pos rfl, if_pos rfl, qv_s m g (by omega) c]; exact ⟨rfl, rfl, fun _ _ => rfl⟩
          rw [n_mod2 (by omega)]
          simp (disch := omega) only [n_z1, n_z2, n_z3, n_z4, n_z5, n_z6, n_z7, n_z8, n_leL, n_leR, n_ltL, n_ltR, n_eqL, n_eqR, n_m1R, n_addL, n_addR, n_mulL, n_mulR, n_subR, n_subL, n_add, n_mul, n_neg, n_sub, n_le, n_lt, n_eq, nI_clamp, if_true, if_false, if_pos, if_neg, or_false, false_or, not_false_eq_true, not_true_eq_false]
          by_cases e9 : m % 2 = 0
          · rw [if_pos e9]; exact key 1 (by unfold par; rw [if_pos e9])
          · rw [if_neg e9]; exact key 0 (by unfold par; rw [if_neg e9])
theorem m_44q (h8 : w 8 = la) (h9 : w 9 = lb) (h10 : w 10 = wa) (h11 : w 11 = wb) (h12 : w 12 = fee) (hn : n ≤ 40) (hd : d ≤ 20) (x3 : Int32) (R : Nat → Int32) :
    ∀ (j z : Nat) (A B T : Nat → Int32), j < z → j ≤ n + 1 → MQS la lb wa wb fee n d j (d + 1) A B T → ∃ T' B' A', g_X11_silence_44 w (nI n) (nI d) x3 z (nI j - 1) R T B A = some (if 2 ≤ x3 then (if x3 = 2 then (qF la lb wa wb fee n d n 0 (-1) 0).1 else nI (qF la lb wa wb fee n d n 0 (-1) 0).2) else if x3 = 0 then (qv la lb wa wb fee n d n 0).1 else (qv la lb wa wb fee n d n 0).2, R, T', B', A')
  | _, 0, _, _, _, h, _, _ => absurd h (Nat.not_lt_zero _)
  | 0, z + 1, A, B, T, h1, h2, h3 => by
    rw [g_X11_silence_44]
    unfold g_X11_silence_44b
    rw [if_pos (by decide)]
    by_cases c : 2 ≤ x3
    · rw [if_pos c, if_pos c]
      have := m_414 (la := la) (lb := lb) (wa := wa) (wb := wb) (fee := fee) w x3 hn hd R T B A (fun m hm g hg => (h3 m (by omega) g (by omega) (by omega)).2.2 hm hg) n zF 0 0 (-1) rfl (by show _ < 65536; omega) (by omega) (by omega)
      exact ⟨T, B, A, this⟩
    · rw [if_neg c, if_neg c]
      have q := h3 0 (by omega) 0 (by omega) (by omega)
      rw [show n - 0 = n from rfl] at q
      by_cases c2 : x3 = 0
      · rw [if_pos c2, if_pos c2]
        exact ⟨T, B, A, by rw [← q.1]⟩
      · rw [if_neg c2, if_neg c2]
        exact ⟨T, B, A, by rw [← q.2.1]⟩
  | j + 1, z + 1, A, B, T, h1, h2, h3 => by
    rw [g_X11_silence_44]
    unfold g_X11_silence_44b
    rw [n_pred (show 0 < j + 1 by omega), Nat.add_sub_cancel, if_neg (nI_pos (show j < 2 ^ 31 by omega))]
    obtain ⟨T1, B1, A1, q1, q2⟩ := m_52 h8 h9 h10 h11 h12 hn hd x3 (g_X11_silence_44 w (nI n) (nI d) x3 z) j (by omega) R (d + 1) zF 0 A B T rfl (by show _ < 65536; omega) (by omega) (fun m' hm' g' hg' hlt => h3 m' hm' g' hg' (by omega))
    have q1' : g_X11_silence_52 w (nI n) (nI d) x3 (g_X11_silence_44 w (nI n) (nI d) x3 z) zF (nI j) 0 R T B A = _ := q1
    rw [q1']
    exact m_44q h8 h9 h10 h11 h12 hn hd x3 R j z A1 B1 T1 (by omega) (by omega) q2
end
theorem zp_silence : zstep_silence Inv := by
  intro I Aa J V h a1 a2 a3
  obtain ⟨hS, hT, hR, hI, hF, hc, hp⟩ := h
  have hk : ∀ j, j < 5 → Aa 6 j = Aa 45 (8 + j) := by
    obtain ⟨np, nt, nd, ns, nr, hG, hC⟩ := id hS
    exact hC.2.2.1
  unfold g_X10_silence g_X11_silence g_X10_silence_29 g_X11_silence_36 g_X10_refuseWorth g_X11_worse
  rw [p_isInZ a1 0 40 0 40 rfl rfl, p_isInZ a2 1 20 1 20 rfl rfl, p_isInZ a3 0 3 0 3 rfl rfl, p_inN a1 0 40 0 40 rfl rfl, p_inN a2 1 20 1 20 rfl rfl, p_inN a3 0 3 0 3 rfl rfl, hr2]
  simp only [pb_some, ite10]
  by_cases e1 : 0 ≤ a1.toInt ∧ a1.toInt ≤ 40
  · rw [if_neg (not_not_intro e1), if_neg (not_not_intro e1)]
    by_cases e2 : 1 ≤ a2.toInt ∧ a2.toInt ≤ 20
    · rw [if_neg (not_not_intro e2), if_neg (not_not_intro e2)]
      by_cases e3 : 0 ≤ a3.toInt ∧ a3.toInt ≤ 3
      · rw [if_neg (not_not_intro e3), if_neg (not_not_intro e3)]
        obtain ⟨n, hn, rfl⟩ := i32c e1.1 (n := 40) e1.2
        obtain ⟨d, hd, rfl⟩ := i32c (show 0 ≤ a2.toInt by omega) (n := 20) e2.2
        obtain ⟨x, hx, rfl⟩ := i32c e3.1 (n := 3) e3.2
        rw [nI_toInt (by omega)] at e2
        obtain ⟨H', S', T', x1, x2, x3⟩ := x_play (Aa 6) (hk 0 (by omega)) (hk 1 (by omega)) (hk 2 (by omega)) (hk 3 (by omega)) (hk 4 (by omega)) hn (show 1 ≤ d by omega) hd (I 26) (I 27) (Aa 23) (Aa 24) (Aa 25)
        obtain ⟨T2, B2, A2, m1⟩ := m_44q (w := Aa 45) rfl rfl rfl rfl rfl hn hd (nI x) (Aa 51) (n + 1) zF (Aa 60) (Aa 61) (Aa 62) (by show _ < 65536; omega) (Nat.le_refl _) (fun m' hm' g' hg' hlt => by omega)
        rw [n_pred (show 0 < n + 1 by omega), Nat.add_sub_cancel] at m1
        rw [x1, m1, pb_some]
        unfold g_X5_end
        rcases (show x = 0 ∨ x = 1 ∨ x = 2 ∨ x = 3 by omega) with rfl | rfl | rfl | rfl
        · exact ⟨_, _, rfl, rfl, x2, hS, hT, hR, hI, hF, hc, hp⟩
        · exact ⟨_, _, rfl, rfl, x3, hS, hT, hR, hI, hF, hc, hp⟩
        · exact ⟨_, _, rfl, rfl, rfl, hS, hT, hR, hI, hF, hc, hp⟩
        · exact ⟨_, _, rfl, rfl, rfl, hS, hT, hR, hI, hF, hc, hp⟩
      · rw [if_pos e3, if_pos e3]
        exact ⟨_, _, rfl, rfl, rfl, hS, hT, iR_0 hR, hI, hF, hc, hp⟩
    · rw [if_pos e2, if_pos e2]
      exact ⟨_, _, rfl, rfl, rfl, hS, hT, iR_0 hR, hI, hF, hc, hp⟩
  · rw [if_pos e1, if_pos e1]
    exact ⟨_, _, rfl, rfl, rfl, hS, hT, iR_0 hR, hI, hF, hc, hp⟩
