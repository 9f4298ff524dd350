/-! STEPS: night -/
/-- the reference's numbers while it mixes: rows below a place are of the round before -/
def HT (s w m k a : Nat) (b : Nat → Int64) : Prop := (∀ j, j ≤ 60 → HM b j (if j < k then bn s w m j else bn s w (m + 1) j)) ∧ HM b 61 a ∧ HM b 63 0
theorem P8b : 10 ^ 61 * 1000000 < PB 8 := by decide
section
variable {n w c : Nat}
theorem m_97 (hn : n ≤ 60) (hw : w ≤ 10) (x3 : Int32) (k87 : Int32 → Int32 → Int32 → Int32 → (Nat → Int32) → (Nat → Int64) → (Nat → Int32) → (Nat → Int32) → Option (Int32 × Int32 × Int32 × Int32 × (Nat → Int32) × (Nat → Int64) × (Nat → Int32) × (Nat → Int32))) (m : Nat) (hm : m + 1 ≤ n) (sg ma mb : Int32) (R A B : Nat → Int32) :
    ∀ (k z : Nat) (b : Nat → Int64), k < z → k ≤ m + 2 → HT (10 - w) w m k 0 b → HM b 62 (10 ^ m) → ∃ b', g_X11_night_97 (nI n) (nI w) x3 k87 z (nI (m + 1)) (nI k - 1) sg ma mb R b A B = k87 (nI (m + 1 + 1)) sg ma mb R b' A B ∧ HT (10 - w) w m 0 0 b' ∧ HM b' 62 (10 ^ (m + 1))
  | _, 0, _, h, _, _, _ => absurd h (Nat.not_lt_zero _)
  | 0, z + 1, b, h1, h2, h3, h4 => by
    have hP := P8b
    have p1 : 10 ^ (m + 1) ≤ 10 ^ 60 := p60 (by omega)
    rw [g_X11_night_97]
    unfold g_X11_night_97b
    rw [if_pos (by decide)]
    have hpe : 10 * 10 ^ m + 0 * 0 = 10 ^ (m + 1) := by rw [Nat.pow_succ]; omega
    obtain ⟨b', q1, q2, q3⟩ := m_mix (p := 10) (q := 0) (to := 62) (ot := 63) (by omega) (by omega) (by omega) (by omega) (by omega) h4 h3.2.2 (by omega)
    have q1' : g_X11_mixes 62 10 63 0 b = some b' := q1
    rw [q1', pb_some, n_addR]
    rw [hpe] at q2
    exact ⟨b', rfl, ⟨fun j hj => q3 j _ (by omega) (h3.1 j hj), q3 61 _ (by omega) h3.2.1, q3 63 _ (by omega) h3.2.2⟩, q2⟩
  | k + 1, z + 1, b, h1, h2, h3, h4 => by
    have hP := P8b
    have p1 : 10 ^ (m + 1) ≤ 10 ^ 60 := p60 (by omega)
    rw [g_X11_night_97]
    unfold g_X11_night_97b g_X11_night_124
    rw [n_pred (show 0 < k + 1 by omega), Nat.add_sub_cancel, if_neg (nI_pos (show k < 2 ^ 31 by omega)), n_neg]
    have hx := h3.1 k (by omega)
    rw [if_pos (by omega)] at hx
    have hs : (10 - nI w).toInt64 = nL (10 - w) := by rw [show 10 - nI w = nI (10 - w) by simp (disch := omega) only [n_z1, n_z2, n_z3, n_z4, n_z5, n_z6, n_z7, n_z8, n_leL, n_leR, n_ltL, n_ltR, n_eqL, n_eqR, n_m1R, n_addL, n_addR, n_mulL, n_mulR, n_subR, n_subL, n_add, n_mul, n_neg, n_sub, n_le, n_lt, n_eq, nI_clamp, if_true, if_false, if_pos, if_neg, or_false, false_or, not_false_eq_true, not_true_eq_false], nL_n (by omega)]
    have hww : (nI w).toInt64 = nL w := nL_n (by omega)
    have le1 := bn_le (10 - w) w (by omega) (m + 1) k
    by_cases e : k = 0
    · subst e
      rw [if_pos (show nI 0 = 0 from rfl), hs, hww]
      have hpe : (10 - w) * bn (10 - w) w m 0 + w * 0 = bn (10 - w) w (m + 1) 0 := by rw [bn]; omega
      obtain ⟨b', q1, q2, q3⟩ := m_mix (p := 10 - w) (q := w) (to := 0) (ot := 63) (by omega) (by omega) (by omega) (by omega) (by omega) hx h3.2.2 (by omega)
      have q1' : g_X11_mixes (nI 0) (nL (10 - w)) 63 (nL w) b = some b' := q1
      rw [q1', pb_some]
      rw [hpe] at q2
      refine m_97 hn hw x3 k87 m hm sg ma mb R A B 0 z b' (by omega) (by omega) ⟨fun j hj => ?_, q3 61 _ (by omega) h3.2.1, q3 63 _ (by omega) h3.2.2⟩ (q3 62 _ (by omega) h4)
      by_cases c1 : j = 0
      · rw [c1, if_neg (by omega)]; exact q2
      · have := h3.1 j hj
        rw [if_neg (by omega)] at this ⊢
        exact q3 j _ c1 this
    · rw [if_neg (show ¬ nI k = 0 by simp (disch := omega) only [n_z1, n_z2, n_z3, n_z4, n_z5, n_z6, n_z7, n_z8, n_leL, n_leR, n_ltL, n_ltR, n_eqL, n_eqR, n_m1R, n_addL, n_addR, n_mulL, n_mulR, n_subR, n_subL, n_add, n_mul, n_neg, n_sub, n_le, n_lt, n_eq, nI_clamp, if_true, if_false, if_pos, if_neg, or_false, false_or, not_false_eq_true, not_true_eq_false]; exact e), hs, hww, n_pred (by omega)]
      obtain ⟨k, rfl⟩ : ∃ j, k = j + 1 := ⟨k - 1, by omega⟩
      rw [Nat.add_sub_cancel]
      have hy := h3.1 k (by omega)
      rw [if_pos (by omega)] at hy
      have hpe : (10 - w) * bn (10 - w) w m (k + 1) + w * bn (10 - w) w m k = bn (10 - w) w (m + 1) (k + 1) := by rw [bn]
      obtain ⟨b', q1, q2, q3⟩ := m_mix (p := 10 - w) (q := w) (to := k + 1) (ot := k) (by omega) (by omega) (by omega) (by omega) (by omega) hx hy (by omega)
      rw [q1, pb_some]
      rw [hpe] at q2
      have ht : HT (10 - w) w m (k + 1) 0 b' := by
        refine ⟨fun j hj => ?_, q3 61 _ (by omega) h3.2.1, q3 63 _ (by omega) h3.2.2⟩
        by_cases c1 : j = k + 1
        · rw [c1, if_neg (by omega)]; exact q2
        · have := h3.1 j hj
          by_cases c2 : j < k + 1
          · rw [if_pos (by omega)] at this ⊢
            exact q3 j _ c1 this
          · rw [if_neg (by omega)] at this ⊢
            exact q3 j _ c1 this
      obtain ⟨b2, r1, r2⟩ := m_97 hn hw x3 k87 m hm sg ma mb R A B (k + 1) z b' (by omega) (by omega) ht (q3 62 _ (by omega) h4)
      rw [n_pred (show 0 < k + 1 by omega), Nat.add_sub_cancel] at r1
      exact ⟨b2, r1, r2⟩
theorem m_87 (hn : n ≤ 60) (hw : w ≤ 10) (x3 sg ma mb : Int32) (R A B : Nat → Int32) : ∀ (k z m : Nat) (b : Nat → Int64), n - m = k → k < z → m ≤ n → (∀ j, j ≤ 60 → HM b j (bn (10 - w) w m j)) → HM b 61 0 → HM b 63 0 → HM b 62 (10 ^ m) →
    ∃ b', g_X11_night_87 (nI n) (nI w) x3 z (nI (m + 1)) sg ma mb R b A B = g_X11_night_156 (nI n) (nI w) x3 zF x3 sg ma mb R b' A B ∧ (∀ j, j ≤ 60 → HM b' j (bn (10 - w) w n j)) ∧ HM b' 61 0 ∧ HM b' 63 0 ∧ HM b' 62 (10 ^ n)
  | _, 0, _, _, _, h, _, _, _, _, _ => absurd h (Nat.not_lt_zero _)
  | k, z + 1, m, b, h1, h2, h3, h4, h5, h6, h7 => by
    rw [g_X11_night_87]
    unfold g_X11_night_87b
    by_cases e : n < m + 1
    · rw [if_pos (show nI n < nI (m + 1) by simp (disch := omega) only [n_z1, n_z2, n_z3, n_z4, n_z5, n_z6, n_z7, n_z8, n_leL, n_leR, n_ltL, n_ltR, n_eqL, n_eqR, n_m1R, n_addL, n_addR, n_mulL, n_mulR, n_subR, n_subL, n_add, n_mul, n_neg, n_sub, n_le, n_lt, n_eq, nI_clamp, if_true, if_false, if_pos, if_neg, or_false, false_or, not_false_eq_true, not_true_eq_false]; omega)]
      have : m = n := by omega
      subst this
      exact ⟨b, rfl, h4, h5, h6, h7⟩
    · rw [if_neg (show ¬ nI n < nI (m + 1) by simp (disch := omega) only [n_z1, n_z2, n_z3, n_z4, n_z5, n_z6, n_z7, n_z8, n_leL, n_leR, n_ltL, n_ltR, n_eqL, n_eqR, n_m1R, n_addL, n_addR, n_mulL, n_mulR, n_subR, n_subL, n_add, n_mul, n_neg, n_sub, n_le, n_lt, n_eq, nI_clamp, if_true, if_false, if_pos, if_neg, or_false, false_or, not_false_eq_true, not_true_eq_false]; omega)]
      obtain ⟨b', q1, q2, q3⟩ := m_97 hn hw x3 (g_X11_night_87 (nI n) (nI w) x3 z) m (by omega) sg ma mb R A B (m + 2) zF b (by show _ < 65536; omega) (Nat.le_refl _) ⟨fun j hj => by
        by_cases c1 : j < m + 2
        · rw [if_pos c1]; exact h4 j hj
        · have := h4 j hj
          rw [bn_hi _ _ m j (by omega)] at this
          rw [if_neg c1, bn_hi _ _ (m + 1) j (by omega)]; exact this, h5, h6⟩ h7
      rw [n_pred (show 0 < m + 2 by omega), show m + 2 - 1 = m + 1 by omega] at q1
      rw [q1]
      exact m_87 hn hw x3 sg ma mb R A B (k - 1) z (m + 1) b' (by omega) (by omega) (by omega) (fun j hj => by have := q2.1 j hj; rw [if_neg (by omega)] at this; exact this) q2.2.1 q2.2.2 q3
theorem m_156 (hn : n ≤ 60) (hw : w ≤ 10) (hc : c ≤ 60) (sg ma mb : Int32) (R A B : Nat → Int32) : ∀ (k z h : Nat) (b : Nat → Int64), n + 1 - h = k → k < z → (h ≤ n + 1 ∨ h = c) → c ≤ h → (∀ j, j ≤ 60 → HM b j (bn (10 - w) w n j)) → HM b 61 (ab (10 - w) w n c h) → HM b 63 0 → HM b 62 (10 ^ n) →
    ∃ b', g_X11_night_156 (nI n) (nI w) (nI c) z (nI h) sg ma mb R b A B = g_X11_night_206 (nI n) (nI w) (nI c) sg ma mb R b' A B ∧ HM b' 61 (ch n w c) ∧ HM b' 62 (if ch n w c = 0 then 1 else 10 ^ n)
  | _, 0, _, _, _, h, _, _, _, _, _, _ => absurd h (Nat.not_lt_zero _)
  | k, z + 1, h, b, h1, h2, h3, h3', h4, h5, h6, h7 => by
    have hP := P8b
    have hp := p60 hn
    rw [g_X11_night_156]
    unfold g_X11_night_156b
    by_cases e : n < h
    · rw [if_pos (show nI n < nI h by simp (disch := omega) only [n_z1, n_z2, n_z3, n_z4, n_z5, n_z6, n_z7, n_z8, n_leL, n_leR, n_ltL, n_ltR, n_eqL, n_eqR, n_m1R, n_addL, n_addR, n_mulL, n_mulR, n_subR, n_subL, n_add, n_mul, n_neg, n_sub, n_le, n_lt, n_eq, nI_clamp, if_true, if_false, if_pos, if_neg, or_false, false_or, not_false_eq_true, not_true_eq_false]; omega)]
      have hch : ab (10 - w) w n c h = ch n w c := by
        unfold ch
        by_cases c1 : h ≤ n + 1
        · rw [show h = n + 1 by omega]
        · have : h = c := by omega
          rw [ab_0 _ _ _ _ h (by omega), ab_0 _ _ _ _ (n + 1) (by omega)]
      rw [hch] at h5
      obtain ⟨nn, hs⟩ := sz_ex (fun i => nI (dg (ch n w c) i)) 8 (Nat.le_refl 8) (fun j a b => by omega)
      have hx : HX (fun i => nI (dg (ch n w c) i)) (ch n w c) := ⟨h5.1, fun _ _ => rfl⟩
      have hl : g_X11_limbs b 61 = some (nI nn) := m_lim (k := 61) (by omega) hx h5 hs
      have hz := hx_sz hx hs
      have hnn := hs.1
      rw [hl, pb_some]
      by_cases c2 : ch n w c = 0
      · rw [if_pos (show nI nn = 0 by rw [hz.2 c2]; rfl)]
        obtain ⟨b', q1, q2, q3⟩ := m_mix (p := 0) (q := 0) (to := 62) (ot := 63) (by omega) (by omega) (by omega) (by omega) (by omega) h7 h6 (by omega)
        have q1' : g_X11_mixes 62 0 63 0 b = some b' := q1
        rw [q1', pb_some, if_pos c2]
        refine ⟨_, rfl, ⟨h5.1, fun i hi => ?_⟩, ⟨by omega, fun i hi => ?_⟩⟩
        · rw [updL_eq, if_neg (by omega)]
          exact (q3 61 _ (by omega) h5).2 i hi
        · rw [updL_eq]
          by_cases c3 : i = 0
          · subst c3; rfl
          · rw [if_neg (by omega), q2.2 i hi]
            have d0 : dg (0 * 10 ^ n + 0 * 0) i = 0 := by unfold dg; rw [Nat.zero_mul, Nat.zero_mul, Nat.zero_add, Nat.zero_div]
            have d1 : dg 1 i = 0 := by
              unfold dg
              obtain ⟨i, rfl⟩ : ∃ j, i = j + 1 := ⟨i - 1, by omega⟩
              have := PB_pos i
              rw [Nat.div_eq_of_lt (by rw [PB]; omega)]
            rw [d0, d1]
      · rw [if_neg (show ¬ nI nn = 0 by simp (disch := omega) only [n_z1, n_z2, n_z3, n_z4, n_z5, n_z6, n_z7, n_z8, n_leL, n_leR, n_ltL, n_ltR, n_eqL, n_eqR, n_m1R, n_addL, n_addR, n_mulL, n_mulR, n_subR, n_subL, n_add, n_mul, n_neg, n_sub, n_le, n_lt, n_eq, nI_clamp, if_true, if_false, if_pos, if_neg, or_false, false_or, not_false_eq_true, not_true_eq_false]; exact fun q => c2 (hz.1 q)), if_neg c2]
        exact ⟨b, rfl, h5, h7⟩
    · rw [if_neg (show ¬ nI n < nI h by simp (disch := omega) only [n_z1, n_z2, n_z3, n_z4, n_z5, n_z6, n_z7, n_z8, n_leL, n_leR, n_ltL, n_ltR, n_eqL, n_eqR, n_m1R, n_addL, n_addR, n_mulL, n_mulR, n_subR, n_subL, n_add, n_mul, n_neg, n_sub, n_le, n_lt, n_eq, nI_clamp, if_true, if_false, if_pos, if_neg, or_false, false_or, not_false_eq_true, not_true_eq_false]; omega)]
      have le := bn_le (10 - w) w (by omega) n h
      have le2 := ab_le (10 - w) w n c (by omega) h
      have le3 : h * 10 ^ n ≤ 60 * 10 ^ 60 := Nat.mul_le_mul (by omega) hp
      obtain ⟨b', q1, q2, q3⟩ := m_mix (p := 1) (q := 1) (to := 61) (ot := h) (by omega) (by omega) (by omega) (by omega) (by omega) h5 (h4 h (by omega)) (by omega)
      have q1' : g_X11_mixes 61 1 (nI h) 1 b = some b' := q1
      rw [q1', pb_some, n_addR]
      refine m_156 hn hw hc sg ma mb R A B (k - 1) z (h + 1) b' (by omega) (by omega) (by omega) (by omega) (fun j hj => q3 j _ (by omega) (h4 j hj)) ?_ (q3 63 _ (by omega) h6) (q3 62 _ (by omega) h7)
      rw [ab, if_pos h3']
      rw [Nat.one_mul, Nat.one_mul] at q2
      exact q2
abbrev KNT := Int64 → Int32 → Int32 → Int32 → (Nat → Int32) → (Nat → Int64) → (Nat → Int32) → (Nat → Int32) → Option (Int32 × Int32 × Int32 × Int32 × (Nat → Int32) × (Nat → Int64) × (Nat → Int32) × (Nat → Int32))
theorem m_220 {p m : Nat} (hp : 2 ≤ p) (hp2 : p ≤ 10) (hm : m % p ≠ 0) (x1 x2 x3 : Int32) (k211 : KNT) (sg ma mb : Int32) (R A B : Nat → Int32) : ∀ (v z a : Nat) (b : Nat → Int64), v < z → HM b 61 a → HM b 62 (p ^ v * m) → (a = 0 → v = 0) →
    ∃ b', g_X11_night_220 x1 x2 x3 k211 z (nL p) sg ma mb R b A B = k211 (nL (p + 3)) sg ma mb R b' A B ∧ HM b' 61 (rv p v m a).1 ∧ HM b' 62 (rv p v m a).2
  | _, 0, _, _, h, _, _, _ => absurd h (Nat.not_lt_zero _)
  | v, z + 1, a, b, h1, h2, h3, h4 => by
    have h274 : g_X11_night_274 x1 x2 x3 k211 (nL p) sg ma mb R b A B = k211 (nL (p + 3)) sg ma mb R b A B := by
      unfold g_X11_night_274
      rw [show (3 : Int64) = nL 3 from rfl, nL_add]
    obtain ⟨nn, hs⟩ := sz_ex (fun i => nI (dg a i)) 8 (Nat.le_refl 8) (fun j a b => by omega)
    have hx : HX (fun i => nI (dg a i)) a := ⟨h2.1, fun _ _ => rfl⟩
    have hl : g_X11_limbs b 61 = some (nI nn) := m_lim (k := 61) (by omega) hx h2 hs
    have hz := hx_sz hx hs
    have hnn := hs.1
    have hr1 : g_X11_restOf b 61 (nL p) = some (nL (a % p)) := m_rest (k := 61) (by omega) (by omega) (by omega) h2
    have hr2 : g_X11_restOf b 62 (nL p) = some (nL (p ^ v * m % p)) := m_rest (k := 62) (by omega) (by omega) (by omega) h3
    have z0 : ∀ x, x < 2 ^ 63 → (nL x = 0 ↔ x = 0) := fun x hx => by rw [show (0 : Int64) = nL 0 from rfl, nL_eq hx (by omega)]
    have l1 := Nat.mod_lt a (show 0 < p by omega)
    have l2 := Nat.mod_lt (p ^ v * m) (show 0 < p by omega)
    rw [g_X11_night_220]
    unfold g_X11_night_220b
    rw [hl, pb_some]
    simp only [lg_eq0]
    rw [hr1, hr2]
    by_cases c0 : a = 0
    · rw [if_pos (show nI nn ≤ 0 by rw [hz.2 c0]; decide), h274]
      have hv := h4 c0
      subst hv c0
      rw [Nat.pow_zero, Nat.one_mul] at h3
      exact ⟨b, rfl, h2, h3⟩
    · have hn0 : nn ≠ 0 := fun q => c0 (hz.1 q)
      rw [if_neg (show ¬ nI nn ≤ 0 by simp (disch := omega) only [n_z1, n_z2, n_z3, n_z4, n_z5, n_z6, n_z7, n_z8, n_leL, n_leR, n_ltL, n_ltR, n_eqL, n_eqR, n_m1R, n_addL, n_addR, n_mulL, n_mulR, n_subR, n_subL, n_add, n_mul, n_neg, n_sub, n_le, n_lt, n_eq, nI_clamp, if_true, if_false, if_pos, if_neg, or_false, false_or, not_false_eq_true, not_true_eq_false]; omega), pb_some]
      cases v with
      | zero =>
        rw [Nat.pow_zero, Nat.one_mul] at h3 l2 ⊢
        have stop : ∃ b', k211 (nL (p + 3)) sg ma mb R b A B = k211 (nL (p + 3)) sg ma mb R b' A B ∧ HM b' 61 (rv p 0 m a).1 ∧ HM b' 62 (rv p 0 m a).2 := ⟨b, rfl, h2, h3⟩
        by_cases c1 : a % p = 0
        · rw [if_pos ((z0 _ (by omega)).2 c1), pb_some, if_neg (fun q => hm ((z0 _ (by omega)).1 q)), h274]
          exact stop
        · rw [if_neg (fun q => c1 ((z0 _ (by omega)).1 q)), h274]
          exact stop
      | succ v =>
        obtain ⟨d1, d2⟩ := pow_s p v m (by omega)
        rw [rv]
        by_cases c1 : a % p = 0
        · rw [if_pos ((z0 _ (by omega)).2 c1), pb_some, d1, if_pos (show nL 0 = 0 from rfl), if_pos c1]
          obtain ⟨b1, q1, q2, q3⟩ := m_shr (k := 61) (s := p) (by omega) (by omega) (by omega) h2
          obtain ⟨b2, q4, q5, q6⟩ := m_shr (k := 62) (s := p) (by omega) (by omega) (by omega) (q3 62 _ (by omega) h3)
          have q1' : g_X11_shares 61 (nL p) b = some b1 := q1
          have q4' : g_X11_shares 62 (nL p) b1 = some b2 := q4
          rw [q1', pb_some, q4', pb_some]
          rw [d2] at q5
          refine m_220 hp hp2 hm x1 x2 x3 k211 sg ma mb R A B v z (a / p) b2 (by omega) (q6 61 _ (by omega) q2) q5 (fun q => ?_)
          exfalso
          have := Nat.div_add_mod a p
          rw [q, c1] at this
          omega
        · rw [if_neg (fun q => c1 ((z0 _ (by omega)).1 q)), h274, if_neg c1]
          exact ⟨b, rfl, h2, h3⟩
theorem m_324 (x1 x2 x3 sg ma mb : Int32) (R : Nat → Int32) (b : Nat → Int64) {a a2 : Nat} (h1 : HM b 61 a) (h2 : HM b 62 a2) : ∀ (k z i : Nat) (A B : Nat → Int32), 8 - i = k → k < z → i ≤ 8 → (∀ j, j < i → A j = nI (dg a j) ∧ B j = nI (dg a2 j)) →
    ∃ A' B', g_X11_night_324 x1 x2 x3 z (nI i) sg ma mb R b A B = some (1, sg, ma, mb, R, b, A', B') ∧ ∀ j, j < 8 → A' j = nI (dg a j) ∧ B' j = nI (dg a2 j)
  | _, 0, _, _, _, _, h, _, _ => absurd h (Nat.not_lt_zero _)
  | k, z + 1, i, A, B, g1, g2, g3, g4 => by
    rw [g_X11_night_324]
    unfold g_X11_night_324b
    by_cases e : 8 ≤ i
    · rw [if_pos (show 8 ≤ nI i by simp (disch := omega) only [n_z1, n_z2, n_z3, n_z4, n_z5, n_z6, n_z7, n_z8, n_leL, n_leR, n_ltL, n_ltR, n_eqL, n_eqR, n_m1R, n_addL, n_addR, n_mulL, n_mulR, n_subR, n_subL, n_add, n_mul, n_neg, n_sub, n_le, n_lt, n_eq, nI_clamp, if_true, if_false, if_pos, if_neg, or_false, false_or, not_false_eq_true, not_true_eq_false]; omega)]
      exact ⟨A, B, rfl, fun j hj => g4 j (by omega)⟩
    · rw [if_neg (show ¬ 8 ≤ nI i by simp (disch := omega) only [n_z1, n_z2, n_z3, n_z4, n_z5, n_z6, n_z7, n_z8, n_leL, n_leR, n_ltL, n_ltR, n_eqL, n_eqR, n_m1R, n_addL, n_addR, n_mulL, n_mulR, n_subR, n_subL, n_add, n_mul, n_neg, n_sub, n_le, n_lt, n_eq, nI_clamp, if_true, if_false, if_pos, if_neg, or_false, false_or, not_false_eq_true, not_true_eq_false]; omega)]
      simp (disch := omega) only [n_z1, n_z2, n_z3, n_z4, n_z5, n_z6, n_z7, n_z8, n_leL, n_leR, n_ltL, n_ltR, n_eqL, n_eqR, n_m1R, n_addL, n_addR, n_mulL, n_mulR, n_subR, n_subL, n_add, n_mul, n_neg, n_sub, n_le, n_lt, n_eq, nI_clamp, if_true, if_false, if_pos, if_neg, or_false, false_or, not_false_eq_true, not_true_eq_false]
      rw [show 488 + i = 8 * 61 + i by omega, show 496 + i = 8 * 62 + i by omega, h1.2 i (by omega), h2.2 i (by omega), nL_i, nL_i]
      refine m_324 x1 x2 x3 sg ma mb R b h1 h2 (k - 1) z (i + 1) _ _ (by omega) (by omega) (by omega) (fun j hj => ?_)
      rw [upd_eq, upd_eq]
      by_cases c1 : j = i
      · rw [if_pos c1, if_pos c1, c1]; exact ⟨rfl, rfl⟩
      · rw [if_neg c1, if_neg c1]; exact g4 j (by omega)
theorem m_206 (hn : n ≤ 60) (x2 x3 sg ma mb : Int32) (R A B : Nat → Int32) (b : Nat → Int64) (a : Nat) (h1 : HM b 61 a) (h2 : HM b 62 (if a = 0 then 1 else 10 ^ n)) {f g : Nat → Int32} {na nb : Nat} (hf : HX f (lo n a).1) (hg : HX g (lo n a).2) (ha : SZ f na) (hb : SZ g nb) :
    ∃ b' A' B', g_X11_night_206 (nI n) x2 x3 sg ma mb R b A B = some (1, if na = 0 then 0 else 1, nI na, nI nb, R, b', A', B') ∧ ∀ j, j < 8 → A' j = f j ∧ B' j = g j := by
  unfold g_X11_night_206
  have lg6 : ∀ x, x < 100 → (0 ≤ lg_cmp (nL x) (6 : Int64) ↔ 6 ≤ x) := by
    intro x hx
    rw [show (0 ≤ lg_cmp (nL x) (6 : Int64)) ↔ ¬ lg_cmp (nL x) (6 : Int64) < 0 from Int32.not_lt.symm, lg_lt0, show (6 : Int64) = nL 6 from rfl, Int64.lt_iff_toInt_lt, nL_toInt (by omega), nL_toInt (by omega)]
    omega
  have fin : ∀ (z : Nat) (b : Nat → Int64), HM b 61 (lo n a).1 → HM b 62 (lo n a).2 → ∃ b' A' B', g_X11_night_211 (nI n) x2 x3 (z + 1) (nL 8) sg ma mb R b A B = some (1, if na = 0 then 0 else 1, nI na, nI nb, R, b', A', B') ∧ ∀ j, j < 8 → A' j = f j ∧ B' j = g j := by
    intro z b g1 g2
    rw [g_X11_night_211]
    unfold g_X11_night_211b g_X11_night_318
    have l1 : g_X11_limbs b 61 = some (nI na) := m_lim (k := 61) (by omega) hf g1 ha
    have l2 : g_X11_limbs b 62 = some (nI nb) := m_lim (k := 62) (by omega) hg g2 hb
    have hna := ha.1
    rw [if_pos ((lg6 8 (by omega)).2 (by omega)), l1, pb_some, l2, pb_some]
    have key : ∀ s, ∃ b' A' B', g_X11_night_324 (nI n) x2 x3 zF 0 s (nI na) (nI nb) R b A B = some (1, s, nI na, nI nb, R, b', A', B') ∧ ∀ j, j < 8 → A' j = f j ∧ B' j = g j := by
      intro s
      obtain ⟨A', B', q1, q2⟩ := m_324 (nI n) x2 x3 s (nI na) (nI nb) R b g1 g2 8 zF 0 A B rfl (by decide) (by omega) (fun j hj => by omega)
      exact ⟨b, A', B', q1, fun j hj => by rw [hf.2 j hj, hg.2 j hj]; exact q2 j hj⟩
    by_cases c1 : na = 0
    · rw [if_pos (show nI na = 0 by rw [c1]; rfl), if_pos c1]
      exact key 0
    · rw [if_neg (show ¬ nI na = 0 by simp (disch := omega) only [n_z1, n_z2, n_z3, n_z4, n_z5, n_z6, n_z7, n_z8, n_leL, n_leR, n_ltL, n_ltR, n_eqL, n_eqR, n_m1R, n_addL, n_addR, n_mulL, n_mulR, n_subR, n_subL, n_add, n_mul, n_neg, n_sub, n_le, n_lt, n_eq, nI_clamp, if_true, if_false, if_pos, if_neg, or_false, false_or, not_false_eq_true, not_true_eq_false]; exact c1), if_neg c1]
      exact key 1
  have s1 : ∀ (z : Nat) (p : Nat) (b : Nat → Int64), p < 6 → g_X11_night_211 (nI n) x2 x3 (z + 1) (nL p) sg ma mb R b A B = g_X11_night_220 (nI n) x2 x3 (g_X11_night_211 (nI n) x2 x3 z) zF (nL p) sg ma mb R b A B := by
    intro z p b hp
    rw [g_X11_night_211]
    unfold g_X11_night_211b
    rw [if_neg (fun q => by have := (lg6 p (by omega)).1 q; omega)]
  have e0 : g_X11_night_211 (nI n) x2 x3 zF 2 sg ma mb R b A B = g_X11_night_211 (nI n) x2 x3 (65535 + 1) (nL 2) sg ma mb R b A B := rfl
  rw [e0, s1 65535 2 b (by omega)]
  by_cases c0 : a = 0
  · subst c0
    rw [if_pos rfl] at h2
    rw [lo_0] at hf hg fin
    obtain ⟨b1, q1, q2, q3⟩ := m_220 (p := 2) (m := 1) (by omega) (by omega) (by decide) (nI n) x2 x3 (g_X11_night_211 (nI n) x2 x3 65535) sg ma mb R A B 0 zF 0 b (by decide) h1 h2 (fun _ => rfl)
    rw [q1, show nL (2 + 3) = nL 5 from rfl, show 65535 = 65534 + 1 from rfl, s1 65534 5 b1 (by omega)]
    obtain ⟨b2, q4, q5, q6⟩ := m_220 (p := 5) (m := 1) (by omega) (by omega) (by decide) (nI n) x2 x3 (g_X11_night_211 (nI n) x2 x3 65534) sg ma mb R A B 0 zF 0 b1 (by decide) q2 q3 (fun _ => rfl)
    rw [q4, show nL (5 + 3) = nL 8 from rfl]
    exact fin 65533 b2 q5 q6
  · rw [if_neg c0, ten_25] at h2
    have f2 := five2 n
    obtain ⟨b1, q1, q2, q3⟩ := m_220 (p := 2) (m := 5 ^ n) (by omega) (by omega) (by omega) (nI n) x2 x3 (g_X11_night_211 (nI n) x2 x3 65535) sg ma mb R A B n zF a b (by show _ < 65536; omega) h1 h2 (fun h => absurd h c0)
    rw [q1, show nL (2 + 3) = nL 5 from rfl, show 65535 = 65534 + 1 from rfl, s1 65534 5 b1 (by omega)]
    obtain ⟨j, j1, j2⟩ := lo_mid n a
    have hne : (rv 2 n (5 ^ n) a).1 ≠ 0 := by
      have : ∀ v m a, a ≠ 0 → (rv 2 v m a).1 ≠ 0 := by
        intro v
        induction v with
        | zero => intro m a h; exact h
        | succ v ih =>
          intro m a h
          rw [rv]
          by_cases c1 : a % 2 = 0
          · rw [if_pos c1]; exact ih m (a / 2) (by omega)
          · rw [if_neg c1]; exact h
      exact this n _ a c0
    rw [j1] at q3
    obtain ⟨b2, q4, q5, q6⟩ := m_220 (p := 5) (m := 2 ^ j) (by omega) (by omega) (two5 j) (nI n) x2 x3 (g_X11_night_211 (nI n) x2 x3 65534) sg ma mb R A B n zF _ b1 (by show _ < 65536; omega) q2 q3 (fun h => absurd h hne)
    rw [q4, show nL (5 + 3) = nL 8 from rfl]
    refine fin 65533 b2 ?_ ?_
    · unfold lo; rw [j2]; exact q5
    · unfold lo; rw [j2]; exact q6
theorem m_46 (hn : n ≤ 60) (hw : w ≤ 10) (hc : c ≤ 60) (sg ma mb : Int32) (R A B : Nat → Int32) : ∀ (k z i : Nat) (b : Nat → Int64), 512 - i = k → k < z → i ≤ 512 → (∀ j, j < i → b j = 0) → ∃ b', g_X11_night_46 (nI n) (nI w) (nI c) z (nI i) sg ma mb R b A B = g_X11_night_206 (nI n) (nI w) (nI c) sg ma mb R b' A B ∧ HM b' 61 (ch n w c) ∧ HM b' 62 (if ch n w c = 0 then 1 else 10 ^ n)
  | _, 0, _, _, _, h, _, _ => absurd h (Nat.not_lt_zero _)
  | k, z + 1, i, b, h1, h2, h3, h4 => by
    have hP := P8b
    rw [g_X11_night_46]
    unfold g_X11_night_46b
    by_cases e : 512 ≤ i
    · rw [if_pos (show 512 ≤ nI i by simp (disch := omega) only [n_z1, n_z2, n_z3, n_z4, n_z5, n_z6, n_z7, n_z8, n_leL, n_leR, n_ltL, n_ltR, n_eqL, n_eqR, n_m1R, n_addL, n_addR, n_mulL, n_mulR, n_subR, n_subL, n_add, n_mul, n_neg, n_sub, n_le, n_lt, n_eq, nI_clamp, if_true, if_false, if_pos, if_neg, or_false, false_or, not_false_eq_true, not_true_eq_false]; omega)]
      have d0 : ∀ i, dg 0 i = 0 := fun i => by unfold dg; rw [Nat.zero_div]
      have d1 : ∀ i, dg 1 i = if i = 0 then 1 else 0 := by
        intro i
        unfold dg
        cases i with
        | zero => rfl
        | succ i =>
          have := PB_pos i
          rw [Nat.div_eq_of_lt (by rw [PB]; omega), if_neg (by omega)]
      have hz : ∀ j, j < 512 → vp_updL (vp_updL b 0 1) 496 1 j = if j = 496 ∨ j = 0 then 1 else 0 := by
        intro j hj
        rw [updL_eq, updL_eq]
        by_cases c1 : j = 496
        · rw [if_pos c1, if_pos (Or.inl c1)]
        · rw [if_neg c1]
          by_cases c2 : j = 0
          · rw [if_pos c2, if_pos (Or.inr c2)]
          · rw [if_neg c2, if_neg (by omega), h4 j (by omega)]
      have hm0 : ∀ q, q ≠ 0 → q ≠ 62 → q < 64 → HM (vp_updL (vp_updL b 0 1) 496 1) q 0 := fun q a1 a2 a3 => ⟨by omega, fun i hi => by rw [hz _ (by omega), if_neg (by omega), d0]; rfl⟩
      have hm1 : ∀ q, q = 0 ∨ q = 62 → HM (vp_updL (vp_updL b 0 1) 496 1) q 1 := fun q a1 => ⟨by omega, fun i hi => by
        rw [hz _ (by omega), d1]
        by_cases c1 : i = 0
        · rw [if_pos (by omega), if_pos c1]; rfl
        · rw [if_neg (by omega), if_neg c1]; rfl⟩
      have hp0 : HM (vp_updL (vp_updL b 0 1) 496 1) 62 (10 ^ 0) := hm1 62 (Or.inr rfl)
      obtain ⟨b1, q1, q2, q3, q4, q5⟩ := m_87 hn hw (nI c) sg ma mb R A B n zF 0 (vp_updL (vp_updL b 0 1) 496 1) rfl (by show _ < 65536; omega) (by omega) (fun j hj => by
        by_cases c1 : j = 0
        · subst c1; rw [bn]; exact hm1 0 (Or.inl rfl)
        · rw [bn_hi _ _ 0 j (by omega)]; exact hm0 j c1 (by omega) (by omega)) (hm0 61 (by omega) (by omega) (by omega)) (hm0 63 (by omega) (by omega) (by omega)) hp0
      have q1' : g_X11_night_87 (nI n) (nI w) (nI c) zF 1 sg ma mb R (vp_updL (vp_updL b 0 1) 496 1) A B = _ := q1
      rw [q1']
      exact m_156 hn hw hc sg ma mb R A B (n + 1 - c) zF c b1 rfl (by show _ < 65536; omega) (Or.inr rfl) (Nat.le_refl c) q2 (by rw [ab_0 _ _ _ _ c (Nat.le_refl c)]; exact q3) q4 q5
    · rw [if_neg (show ¬ 512 ≤ nI i by simp (disch := omega) only [n_z1, n_z2, n_z3, n_z4, n_z5, n_z6, n_z7, n_z8, n_leL, n_leR, n_ltL, n_ltR, n_eqL, n_eqR, n_m1R, n_addL, n_addR, n_mulL, n_mulR, n_subR, n_subL, n_add, n_mul, n_neg, n_sub, n_le, n_lt, n_eq, nI_clamp, if_true, if_false, if_pos, if_neg, or_false, false_or, not_false_eq_true, not_true_eq_false]; omega)]
      simp (disch := omega) only [n_z1, n_z2, n_z3, n_z4, n_z5, n_z6, n_z7, n_z8, n_leL, n_leR, n_ltL, n_ltR, n_eqL, n_eqR, n_m1R, n_addL, n_addR, n_mulL, n_mulR, n_subR, n_subL, n_add, n_mul, n_neg, n_sub, n_le, n_lt, n_eq, nI_clamp, if_true, if_false, if_pos, if_neg, or_false, false_or, not_false_eq_true, not_true_eq_false]
      refine m_46 hn hw hc sg ma mb R A B (k - 1) z (i + 1) _ (by omega) (by omega) (by omega) (fun j hj => ?_)
      rw [updL_eq]
      by_cases c1 : j = i
      · rw [if_pos c1]
      · rw [if_neg c1]; exact h4 j (by omega)
end
theorem zp_night : zstep_night Inv := by
  intro I Aa J V h a1 a2 a3
  obtain ⟨hS, hT, hR, hI, hF, hc, hp⟩ := h
  unfold g_X10_night g_X11_night g_X10_night_30 g_X11_night_36
  rw [p_isInZ a1 0 60 0 60 rfl rfl, p_isInZ a2 0 10 0 10 rfl rfl, p_isInZ a3 0 60 0 60 rfl rfl, p_inN a1 0 60 0 60 rfl rfl, p_inN a2 0 10 0 10 rfl rfl, p_inN a3 0 60 0 60 rfl rfl, hr2, hm2]
  simp only [pb_some, ite10]
  by_cases e1 : 0 ≤ a1.toInt ∧ a1.toInt ≤ 60
  · rw [if_neg (not_not_intro e1), if_neg (not_not_intro e1)]
    by_cases e2 : 0 ≤ a2.toInt ∧ a2.toInt ≤ 10
    · rw [if_neg (not_not_intro e2), if_neg (not_not_intro e2)]
      by_cases e3 : 0 ≤ a3.toInt ∧ a3.toInt ≤ 60
      · rw [if_neg (not_not_intro e3), if_neg (not_not_intro e3)]
        obtain ⟨n, hn, rfl⟩ := i32c e1.1 (n := 60) e1.2
        obtain ⟨w, hw, rfl⟩ := i32c e2.1 (n := 10) e2.2
        obtain ⟨c, hc3, rfl⟩ := i32c e3.1 (n := 60) e3.2
        obtain ⟨al, bl, tm, x1, x2, x3⟩ := x_chance hn hw hc3 (Aa 26) (Aa 27) (Aa 28)
        obtain ⟨na, ha⟩ := sz_ex al 8 (Nat.le_refl 8) (fun j a b => by omega)
        obtain ⟨nb, hb⟩ := sz_ex bl 8 (Nat.le_refl 8) (fun j a b => by omega)
        obtain ⟨b1, m1, m2, m3⟩ := m_46 hn hw hc3 (I 39) (I 40) (I 41) (Aa 51) (Aa 49) (Aa 50) 512 zF 0 (J 3) rfl (by decide) (by omega) (fun j hj => by omega)
        have m1' : g_X11_night_46 (nI n) (nI w) (nI c) zF 0 (I 39) (I 40) (I 41) (Aa 51) (J 3) (Aa 49) (Aa 50) = _ := m1
        obtain ⟨b2, A', B', m4, m5⟩ := m_206 hn (nI w) (nI c) (I 39) (I 40) (I 41) (Aa 51) (Aa 49) (Aa 50) b1 (ch n w c) m2 m3 x2 x3 ha hb
        rw [x1, m1', m4, pb_some]
        refine ⟨_, _, rfl, rfl, rfl, hS, hT, hR, hI, ?_, hc, hp⟩
        exact ⟨na, nb, ha, hb, rfl, rfl, rfl, fun j hj => (m5 j (by have := ha.1; omega)).1, fun j hj => (m5 j (by have := hb.1; omega)).2⟩
      · rw [if_pos e3, if_pos e3]
        exact ⟨_, _, rfl, rfl, rfl, hS, hT, iR_0 hR, hI, hF, hc, hp⟩
    · rw [if_pos e2, if_pos e2]
      exact ⟨_, _, rfl, rfl, rfl, hS, hT, iR_0 hR, hI, hF, hc, hp⟩
  · rw [if_pos e1, if_pos e1]
    exact ⟨_, _, rfl, rfl, rfl, hS, hT, iR_0 hR, hI, hF, hc, hp⟩
