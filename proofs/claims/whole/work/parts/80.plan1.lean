/-! THE PLAN: numbers, and the reference's table -/
theorem z_add {x y : Int32} (h1 : -1000000000 ≤ x.toInt ∧ x.toInt ≤ 1000000000) (h2 : -1000000000 ≤ y.toInt ∧ y.toInt ≤ 1000000000) : (x + y).toInt = x.toInt + y.toInt := by
  rw [Int32.toInt_add, Int.bmod_eq_of_le (by omega) (by omega)]
theorem z_sub {x y : Int32} (h1 : -1000000000 ≤ x.toInt ∧ x.toInt ≤ 1000000000) (h2 : -1000000000 ≤ y.toInt ∧ y.toInt ≤ 1000000000) : (x - y).toInt = x.toInt - y.toInt := by
  rw [Int32.toInt_sub, Int.bmod_eq_of_le (by omega) (by omega)]
theorem pB_ge (f : Nat → Int32) : ∀ n, (f 0).toInt ≤ (pB f n).toInt
  | 0 => Int.le_refl _
  | n + 1 => by
    rw [pB]
    have h := pB_ge f n
    by_cases c : pB f n < f (n + 1)
    · rw [if_pos c]
      rw [Int32.lt_iff_toInt_lt] at c
      omega
    · rw [if_neg c]; exact h
theorem pB_le (f : Nat → Int32) (hi : Int) : ∀ n, (∀ g, g ≤ n → (f g).toInt ≤ hi) → (pB f n).toInt ≤ hi
  | 0, h => h 0 (Nat.le_refl 0)
  | n + 1, h => by
    rw [pB]
    have h1 := pB_le f hi n (fun g hg => h g (by omega))
    have h2 := h (n + 1) (by omega)
    by_cases c : pB f n < f (n + 1)
    · rw [if_pos c]; exact h2
    · rw [if_neg c]; exact h1
theorem pB_0 (f : Nat → Int32) : ∀ n, (∀ g, g ≤ n → (f g).toInt ≤ (f 0).toInt) → pB f n = f 0 ∧ pG f n = 0
  | 0, h => ⟨rfl, rfl⟩
  | n + 1, h => by
    obtain ⟨h1, h2⟩ := pB_0 f n (fun g hg => h g (by omega))
    have h3 := h (n + 1) (by omega)
    have c : ¬ pB f n < f (n + 1) := by rw [h1, Int32.lt_iff_toInt_lt]; omega
    rw [pB, pG, if_neg c, if_neg c]
    exact ⟨h1, h2⟩
theorem pB_congr {f g : Nat → Int32} : ∀ n, (∀ i, i ≤ n → f i = g i) → pB f n = pB g n ∧ pG f n = pG g n
  | 0, h => ⟨h 0 (Nat.le_refl 0), rfl⟩
  | n + 1, h => by
    obtain ⟨h1, h2⟩ := pB_congr n (fun g hg => h g (by omega))
    rw [pB, pB, pG, pG, h1, h2, h (n + 1) (by omega)]
    exact ⟨rfl, rfl⟩
theorem pG_le (f : Nat → Int32) : ∀ n, pG f n ≤ n
  | 0 => Nat.le_refl 0
  | n + 1 => by
    have := pG_le f n
    rw [pG]
    split <;> omega
/-- what the plan needs of the row of numbers -/
def PN (w : Nat → Int32) (fa nd : Nat) : Prop := (1 ≤ fa ∧ fa ≤ 4 ∧ nd ≤ 8) ∧ w 0 = nI fa ∧ w 5 = nI nd ∧ ∀ d, d < nd → (∃ s, s ≤ 99 ∧ w (79 + d) = nI s) ∧ (∃ c, c ≤ 99 ∧ w (71 + d) = nI c) ∧ (-99 ≤ (w (87 + d)).toInt ∧ (w (87 + d)).toInt ≤ 99)
theorem pn_of {w : Nat → Int32} {np nt nd ns nr : Nat} (h : RG w np nt nd ns nr) : PN w (tn (w 0)) nd ∧ tn (w 5) = nd := by
  have hb := h.1
  have h0 := h.2.2.1.1
  refine ⟨⟨⟨by unfold tn; omega, by unfold tn; omega, by omega⟩, tn_nI (by omega), h.2.1.2.2.1, fun d hd => ?_⟩, (rg_np h).2.2.1⟩
  have := h.2.2.2.2.2.2.1 d hd
  obtain ⟨s, s1, s2⟩ := i32c this.2.1.1 (n := 99) this.2.1.2
  obtain ⟨c, c1, c2⟩ := i32c this.1.1 (n := 99) this.1.2
  exact ⟨⟨s, s1, s2⟩, ⟨c, c1, c2⟩, this.2.2⟩
section
variable {w : Nat → Int32} {fa nd : Nat}
theorem pS_bd (h : PN w fa nd) (m c : Nat) : ∀ d, d ≤ nd → -(99 * (d : Int)) ≤ (pS w m c d).toInt ∧ (pS w m c d).toInt ≤ 99 * d
  | 0, _ => by
    show _ ≤ (0 : Int32).toInt ∧ (0 : Int32).toInt ≤ _
    have : (0 : Int32).toInt = 0 := rfl
    omega
  | d + 1, hd => by
    have h1 := pS_bd h m c d (by omega)
    have h2 := (h.2.2.2 d (by omega)).2.2
    have hb := h.1
    rw [pS]
    by_cases e : w (79 + d) = nI m ∧ w (71 + d) ≤ nI c
    · rw [if_pos e, z_add (by omega) (by omega)]
      omega
    · rw [if_neg e, Int32.add_zero]
      omega
theorem nI_kg {k g : Nat} (hk : k ≤ 9) (hg : g ≤ 4) : (nI (k * g)).toInt = (k * g : Nat) ∧ k * g ≤ 36 := by
  have : k * g ≤ 9 * 4 := Nat.mul_le_mul hk hg
  exact ⟨nI_toInt (by omega), this⟩
theorem pM_bd (h : PN w fa nd) {k : Nat} (hk : k ≤ 9) : ∀ (r c : Nat), r ≤ 99 → -(792 * ((r : Int) + 1)) ≤ (pM w k nd r c).toInt ∧ (pM w k nd r c).toInt ≤ 792 * ((r : Int) + 1)
  | 0, c, _ => by
    have := pS_bd h 99 c nd (Nat.le_refl _)
    have hb := h.1
    rw [pM]
    omega
  | r + 1, c, hr => by
    have h1 := pS_bd h (98 - r) c nd (Nat.le_refl _)
    have hb := h.1
    have h0 : tn (w 0) = fa := by rw [h.2.1, tn_of (by omega)]
    have hf : ∀ g, g ≤ fa → (pM w k nd r (min (c + g) 99) - nI (k * g)).toInt = (pM w k nd r (min (c + g) 99)).toInt - (k * g : Nat) := by
      intro g hg
      have q1 := nI_kg hk (show g ≤ 4 by omega)
      have q2 := pM_bd h hk r (min (c + g) 99) (by omega)
      rw [z_sub (by omega) (by omega), q1.1]
    have hlo := pB_ge (fun g => pM w k nd r (min (c + g) 99) - nI (k * g)) fa
    have hhi := pB_le (fun g => pM w k nd r (min (c + g) 99) - nI (k * g)) (792 * ((r : Int) + 1)) fa (fun g hg => by
      show (pM w k nd r (min (c + g) 99) - nI (k * g)).toInt ≤ _
      rw [hf g hg]
      have q2 := pM_bd h hk r (min (c + g) 99) (by omega)
      omega)
    have hlo' : (pM w k nd r (min (c + 0) 99) - nI (k * 0)).toInt ≤ _ := hlo
    rw [hf 0 (by omega)] at hlo'
    have q2 := pM_bd h hk r (min (c + 0) 99) (by omega)
    rw [pM, h0]
    rw [z_add (by omega) (by omega)]
    omega
/-- the reference's table, as far as a minute and a clock -/
def MTB (w : Nat → Int32) (k nd m c : Nat) (T : Nat → Int32) : Prop := ∀ m' c', m' ≤ 99 → c' ≤ 99 → (m < m' ∨ m' = m ∧ c' < c) → T (100 * m' + c') = pM w k nd (99 - m') c'
theorem m_105 (h : PN w fa nd) (k : Nat) (k3 : Int32 → (Nat → Int32) → Option (Nat → Int32)) (k9 : Int32 → Int32 → (Nat → Int32) → Option (Nat → Int32)) (m c : Nat) (hm : m ≤ 99) (hc : c ≤ 99) (x : Int32) (T : Nat → Int32) :
    ∀ (j z d : Nat), nd - d = j → j < z → d ≤ nd → g_X11_plans_105 w (nI k) k3 k9 z (nI m) (nI c) (x + pS w m c d) (nI d) T = k9 (nI m) (nI (c + 1)) (upd T (100 * m + c) (x + pS w m c nd))
  | _, 0, _, _, h, _ => absurd h (Nat.not_lt_zero _)
  | j, z + 1, d, h1, h2, h3 => by
    have hb := h.1
    rw [g_X11_plans_105]
    unfold g_X11_plans_105b g_X11_plans_159 g_X11_plans_160
    by_cases e : nd ≤ d
    · simp (disch := omega) only [n_z1, n_z2, n_z3, n_z4, n_z5, n_z6, n_z7, n_z8, n_leL, n_leR, n_ltL, n_ltR, n_eqL, n_eqR, n_m1R, n_addL, n_addR, n_mulL, n_mulR, n_subR, n_subL, n_add, n_mul, n_neg, n_sub, n_le, n_lt, n_eq, nI_clamp, if_true, if_false, if_pos, if_neg, or_false, false_or, not_false_eq_true, not_true_eq_false, h.2.2.1]
      rw [show d = nd by omega]
    · simp (disch := omega) only [n_z1, n_z2, n_z3, n_z4, n_z5, n_z6, n_z7, n_z8, n_leL, n_leR, n_ltL, n_ltR, n_eqL, n_eqR, n_m1R, n_addL, n_addR, n_mulL, n_mulR, n_subR, n_subL, n_add, n_mul, n_neg, n_sub, n_le, n_lt, n_eq, nI_clamp, if_true, if_false, if_pos, if_neg, or_false, false_or, not_false_eq_true, not_true_eq_false, h.2.2.1]
      have ih := m_105 h k k3 k9 m c hm hc x T (j - 1) z (d + 1) (by omega) (by omega) (by omega)
      rw [pS, ← Int32.add_assoc] at ih
      by_cases e1 : w (79 + d) = nI m
      · rw [if_pos e1]
        by_cases e2 : nI c < w (71 + d)
        · rw [if_pos e2]
          rw [if_neg (fun q => absurd e2 (Int32.not_lt.mpr q.2))] at ih
          exact ih
        · rw [if_neg e2]
          rw [if_pos ⟨e1, Int32.not_lt.mp e2⟩] at ih
          exact ih
      · rw [if_neg e1]
        rw [if_neg (fun q => e1 q.1)] at ih
        exact ih
theorem m_102 (h : PN w fa nd) (k : Nat) (k3 : Int32 → (Nat → Int32) → Option (Nat → Int32)) (k9 : Int32 → Int32 → (Nat → Int32) → Option (Nat → Int32)) (m c : Nat) (hm : m ≤ 99) (hc : c ≤ 99) (x : Int32) (T : Nat → Int32) :
    g_X11_plans_102 w (nI k) k3 k9 (nI m) (nI c) x T = k9 (nI m) (nI (c + 1)) (upd T (100 * m + c) (x + pS w m c nd)) := by
  have hb := h.1
  have := m_105 h k k3 k9 m c hm hc x T nd zF 0 rfl (by show _ < 65536; omega) (by omega)
  rw [show pS w m c 0 = 0 from rfl, Int32.add_zero] at this
  exact this
theorem m_21 (h : PN w fa nd) (k : Nat) (hk : k ≤ 9) (k3 : Int32 → (Nat → Int32) → Option (Nat → Int32)) (k9 : Int32 → Int32 → (Nat → Int32) → Option (Nat → Int32)) (m c : Nat) (hm : m < 99) (hc : c ≤ 99) (T : Nat → Int32) (hT : MTB w k nd m c T) :
    ∀ (j z g : Nat), fa - g = j → j < z → g ≤ fa → g_X11_plans_21 w (nI k) k3 k9 z (nI m) (nI c) (pB (fun g => pM w k nd (98 - m) (min (c + g) 99) - nI (k * g)) g) (nI (g + 1)) T = g_X11_plans_102 w (nI k) k3 k9 (nI m) (nI c) (pB (fun g => pM w k nd (98 - m) (min (c + g) 99) - nI (k * g)) fa) T
  | _, 0, _, _, h, _ => absurd h (Nat.not_lt_zero _)
  | j, z + 1, g, h1, h2, h3 => by
    have hb := h.1
    rw [g_X11_plans_21]
    unfold g_X11_plans_21b
    by_cases e : fa < g + 1
    · simp (disch := omega) only [n_z1, n_z2, n_z3, n_z4, n_z5, n_z6, n_z7, n_z8, n_leL, n_leR, n_ltL, n_ltR, n_eqL, n_eqR, n_m1R, n_addL, n_addR, n_mulL, n_mulR, n_subR, n_subL, n_add, n_mul, n_neg, n_sub, n_le, n_lt, n_eq, nI_clamp, if_true, if_false, if_pos, if_neg, or_false, false_or, not_false_eq_true, not_true_eq_false, h.2.1]
      rw [show g = fa by omega]
    · simp (disch := omega) only [n_z1, n_z2, n_z3, n_z4, n_z5, n_z6, n_z7, n_z8, n_leL, n_leR, n_ltL, n_ltR, n_eqL, n_eqR, n_m1R, n_addL, n_addR, n_mulL, n_mulR, n_subR, n_subL, n_add, n_mul, n_neg, n_sub, n_le, n_lt, n_eq, nI_clamp, if_true, if_false, if_pos, if_neg, or_false, false_or, not_false_eq_true, not_true_eq_false, h.2.1]
      have q1 := nI_kg hk (show g + 1 ≤ 4 by omega)
      have ih := m_21 h k hk k3 k9 m c hm hc T hT (j - 1) z (g + 1) (by omega) (by omega) (by omega)
      have hT2 := hT (m + 1) (min (c + (g + 1)) 99) (by omega) (by omega) (by omega)
      rw [show 99 - (m + 1) = 98 - m by omega] at hT2
      have key : ∀ t, t = min (c + (g + 1)) 99 → g_X11_plans_66 w (nI k) k3 k9 (g_X11_plans_21 w (nI k) k3 k9 z) (nI m) (nI c) (pB (fun g => pM w k nd (98 - m) (min (c + g) 99) - nI (k * g)) g) (nI (g + 1)) (nI (100 * (m + 1))) (nI t) T = g_X11_plans_102 w (nI k) k3 k9 (nI m) (nI c) (pB (fun g => pM w k nd (98 - m) (min (c + g) 99) - nI (k * g)) fa) T := by
        intro t ht
        have ht2 : t ≤ 99 := by omega
        unfold g_X11_plans_66 g_X11_plans_87 g_X11_plans_94
        simp (disch := omega) only [n_z1, n_z2, n_z3, n_z4, n_z5, n_z6, n_z7, n_z8, n_leL, n_leR, n_ltL, n_ltR, n_eqL, n_eqR, n_m1R, n_addL, n_addR, n_mulL, n_mulR, n_subR, n_subL, n_add, n_mul, n_neg, n_sub, n_le, n_lt, n_eq, nI_clamp, if_true, if_false, if_pos, if_neg, or_false, false_or, not_false_eq_true, not_true_eq_false]
        rw [ht, hT2]
        rw [pB] at ih
        by_cases e2 : pB (fun g => pM w k nd (98 - m) (min (c + g) 99) - nI (k * g)) g < pM w k nd (98 - m) (min (c + (g + 1)) 99) - nI (k * (g + 1))
        · rw [if_neg (Int32.not_le.mpr e2)]
          rw [if_pos e2] at ih
          exact ih
        · rw [if_pos (Int32.not_lt.mp e2)]
          rw [if_neg e2] at ih
          exact ih
      by_cases e1 : 99 ≤ c + (g + 1)
      · rw [if_pos e1]
        exact key 99 (by omega)
      · rw [if_neg e1]
        exact key (c + (g + 1)) (by omega)
theorem m_cell (h : PN w fa nd) (k : Nat) (hk : k ≤ 9) (k3 : Int32 → (Nat → Int32) → Option (Nat → Int32)) (k9 : Int32 → Int32 → (Nat → Int32) → Option (Nat → Int32)) (m c : Nat) (hm : m ≤ 99) (hc : c ≤ 99) (T : Nat → Int32) (hT : MTB w k nd m c T) :
    g_X11_plans_21 w (nI k) k3 k9 zF (nI m) (nI c) 0 0 T = k9 (nI m) (nI (c + 1)) (upd T (100 * m + c) (pM w k nd (99 - m) c)) := by
  have hb := h.1
  have h0 : tn (w 0) = fa := by rw [h.2.1, tn_of (by omega)]
  rw [show zF = 65535 + 1 from rfl, g_X11_plans_21]
  unfold g_X11_plans_21b
  by_cases e : m = 99
  · subst e
    rw [if_neg (show ¬ w 0 < 0 by rw [h.2.1]; simp (disch := omega) only [n_z1, n_z2, n_z3, n_z4, n_z5, n_z6, n_z7, n_z8, n_leL, n_leR, n_ltL, n_ltR, n_eqL, n_eqR, n_m1R, n_addL, n_addR, n_mulL, n_mulR, n_subR, n_subL, n_add, n_mul, n_neg, n_sub, n_le, n_lt, n_eq, nI_clamp, if_true, if_false, if_pos, if_neg, or_false, false_or, not_false_eq_true, not_true_eq_false]; omega), if_pos (show 99 ≤ nI 99 by decide), m_102 h k k3 k9 99 c hm hc]
    rw [show 99 - 99 = 0 from rfl, pM, Int32.zero_add]
  · have hT2 := hT (m + 1) (min (c + 0) 99) (by omega) (by omega) (by omega)
    rw [show 99 - (m + 1) = 98 - m by omega] at hT2
    have q := m_21 h k hk k3 k9 m c (by omega) hc T hT fa 65535 0 rfl (by omega) (by omega)
    rw [m_102 h k k3 k9 m c hm hc] at q
    have q2 : pM w k nd (99 - m) c = pB (fun g => pM w k nd (98 - m) (min (c + g) 99) - nI (k * g)) fa + pS w m c nd := by
      rw [show 99 - m = (98 - m) + 1 by omega, pM, h0, show 98 - (98 - m) = m by omega]
    rw [q2, ← q]
    rw [if_neg (show ¬ w 0 < 0 by rw [h.2.1]; simp (disch := omega) only [n_z1, n_z2, n_z3, n_z4, n_z5, n_z6, n_z7, n_z8, n_leL, n_leR, n_ltL, n_ltR, n_eqL, n_eqR, n_m1R, n_addL, n_addR, n_mulL, n_mulR, n_subR, n_subL, n_add, n_mul, n_neg, n_sub, n_le, n_lt, n_eq, nI_clamp, if_true, if_false, if_pos, if_neg, or_false, false_or, not_false_eq_true, not_true_eq_false]; omega), if_neg (show ¬ 99 ≤ nI m by simp (disch := omega) only [n_z1, n_z2, n_z3, n_z4, n_z5, n_z6, n_z7, n_z8, n_leL, n_leR, n_ltL, n_ltR, n_eqL, n_eqR, n_m1R, n_addL, n_addR, n_mulL, n_mulR, n_subR, n_subL, n_add, n_mul, n_neg, n_sub, n_le, n_lt, n_eq, nI_clamp, if_true, if_false, if_pos, if_neg, or_false, false_or, not_false_eq_true, not_true_eq_false]; omega)]
    have key : ∀ t, t = min (c + 0) 99 → g_X11_plans_66 w (nI k) k3 k9 (g_X11_plans_21 w (nI k) k3 k9 65535) (nI m) (nI c) 0 0 (100 * (nI m + 1)) (nI t) T = g_X11_plans_21 w (nI k) k3 k9 65535 (nI m) (nI c) (pB (fun g => pM w k nd (98 - m) (min (c + g) 99) - nI (k * g)) 0) (nI (0 + 1)) T := by
      intro t ht
      have ht2 : t ≤ 99 := by omega
      unfold g_X11_plans_66 g_X11_plans_87 g_X11_plans_94
      simp (disch := omega) only [n_z1, n_z2, n_z3, n_z4, n_z5, n_z6, n_z7, n_z8, n_leL, n_leR, n_ltL, n_ltR, n_eqL, n_eqR, n_m1R, n_addL, n_addR, n_mulL, n_mulR, n_subR, n_subL, n_add, n_mul, n_neg, n_sub, n_le, n_lt, n_eq, nI_clamp, if_true, if_false, if_pos, if_neg, or_false, false_or, not_false_eq_true, not_true_eq_false]
      rw [ht, hT2]
      rfl
    by_cases e1 : 99 ≤ c
    · rw [if_pos (show 99 ≤ nI c + 0 by simp (disch := omega) only [n_z1, n_z2, n_z3, n_z4, n_z5, n_z6, n_z7, n_z8, n_leL, n_leR, n_ltL, n_ltR, n_eqL, n_eqR, n_m1R, n_addL, n_addR, n_mulL, n_mulR, n_subR, n_subL, n_add, n_mul, n_neg, n_sub, n_le, n_lt, n_eq, nI_clamp, if_true, if_false, if_pos, if_neg, or_false, false_or, not_false_eq_true, not_true_eq_false]; omega)]
      exact key 99 (by omega)
    · rw [if_neg (show ¬ 99 ≤ nI c + 0 by simp (disch := omega) only [n_z1, n_z2, n_z3, n_z4, n_z5, n_z6, n_z7, n_z8, n_leL, n_leR, n_ltL, n_ltR, n_eqL, n_eqR, n_m1R, n_addL, n_addR, n_mulL, n_mulR, n_subR, n_subL, n_add, n_mul, n_neg, n_sub, n_le, n_lt, n_eq, nI_clamp, if_true, if_false, if_pos, if_neg, or_false, false_or, not_false_eq_true, not_true_eq_false]; omega)]
      rw [show nI c + 0 = nI c from n_z8]
      exact key c (by omega)
theorem m_9 (h : PN w fa nd) (k : Nat) (hk : k ≤ 9) (k3 : Int32 → (Nat → Int32) → Option (Nat → Int32)) (m : Nat) (hm : m ≤ 99) :
    ∀ (j z c : Nat) (T : Nat → Int32), 100 - c = j → j < z → c ≤ 100 → MTB w k nd m c T → ∃ T', g_X11_plans_9 w (nI k) k3 z (nI m) (nI c) T = k3 (nI m - 1) T' ∧ MTB w k nd m 100 T'
  | _, 0, _, _, _, h, _, _ => absurd h (Nat.not_lt_zero _)
  | j, z + 1, c, T, h1, h2, h3, h4 => by
    rw [g_X11_plans_9]
    unfold g_X11_plans_9b
    by_cases e : 100 ≤ c
    · rw [if_pos (show 100 ≤ nI c by simp (disch := omega) only [n_z1, n_z2, n_z3, n_z4, n_z5, n_z6, n_z7, n_z8, n_leL, n_leR, n_ltL, n_ltR, n_eqL, n_eqR, n_m1R, n_addL, n_addR, n_mulL, n_mulR, n_subR, n_subL, n_add, n_mul, n_neg, n_sub, n_le, n_lt, n_eq, nI_clamp, if_true, if_false, if_pos, if_neg, or_false, false_or, not_false_eq_true, not_true_eq_false]; omega), n_neg]
      exact ⟨T, rfl, by rw [show c = 100 by omega] at h4; exact h4⟩
    · rw [if_neg (show ¬ 100 ≤ nI c by simp (disch := omega) only [n_z1, n_z2, n_z3, n_z4, n_z5, n_z6, n_z7, n_z8, n_leL, n_leR, n_ltL, n_ltR, n_eqL, n_eqR, n_m1R, n_addL, n_addR, n_mulL, n_mulR, n_subR, n_subL, n_add, n_mul, n_neg, n_sub, n_le, n_lt, n_eq, nI_clamp, if_true, if_false, if_pos, if_neg, or_false, false_or, not_false_eq_true, not_true_eq_false]; omega), m_cell h k hk k3 _ m c hm (by omega) T h4]
      refine m_9 h k hk k3 m hm (j - 1) z (c + 1) _ (by omega) (by omega) (by omega) ?_
      intro m' c' hm' hc' hlt
      rw [upd_eq]
      by_cases e2 : 100 * m' + c' = 100 * m + c
      · have e3 : m' = m := by omega
        have e4 : c' = c := by omega
        rw [if_pos e2, e3, e4]
      · rw [if_neg e2]
        exact h4 m' c' hm' hc' (by omega)
theorem m_3 (h : PN w fa nd) (k : Nat) (hk : k ≤ 9) : ∀ (j z : Nat) (T : Nat → Int32), j < z → j ≤ 100 → MTB w k nd j 100 T → ∃ T', g_X11_plans_3 w (nI k) z (nI j - 1) T = some T' ∧ MTB w k nd 0 100 T'
  | _, 0, _, h, _, _ => absurd h (Nat.not_lt_zero _)
  | 0, z + 1, T, h1, h2, h3 => by
    rw [g_X11_plans_3]
    unfold g_X11_plans_3b
    rw [if_pos (by decide)]
    exact ⟨T, rfl, h3⟩
  | j + 1, z + 1, T, h1, h2, h3 => by
    rw [g_X11_plans_3]
    unfold g_X11_plans_3b
    rw [n_pred (show 0 < j + 1 by omega), Nat.add_sub_cancel, if_neg (nI_pos (show j < 2 ^ 31 by omega))]
    obtain ⟨T1, q1, q2⟩ := m_9 h k hk (g_X11_plans_3 w (nI k) z) j (by omega) 100 zF 0 T rfl (by decide) (by omega) (fun m' c' hm' hc' hlt => h3 m' c' hm' hc' (by omega))
    have q1' : g_X11_plans_9 w (nI k) (g_X11_plans_3 w (nI k) z) zF (nI j) 0 T = _ := q1
    rw [q1']
    exact m_3 h k hk j z T1 (by omega) (by omega) q2
theorem m_plans (h : PN w fa nd) (k : Nat) (hk : k ≤ 9) (T : Nat → Int32) : ∃ T', g_X11_plans w (nI k) T = some T' ∧ ∀ m c, m ≤ 99 → c ≤ 99 → T' (100 * m + c) = pM w k nd (99 - m) c := by
  obtain ⟨T', h1, h2⟩ := m_3 h k hk 100 zF T (by decide) (by omega) (fun m' c' hm' hc' hlt => by omega)
  have h1' : g_X11_plans w (nI k) T = some T' := h1
  exact ⟨T', h1', fun m c hm hc => h2 m c hm hc (by omega)⟩
/-- the clock that the plan has at a minute -/
def pC (w : Nat → Int32) (k nd : Nat) : Nat → Nat
  | 0 => 0
  | m + 1 => min (pC w k nd m + pP w k nd m (pC w k nd m)) 99
theorem pC_le (w : Nat → Int32) (k nd : Nat) : ∀ m, pC w k nd m ≤ 99 ∧ pC w k nd m ≤ tn (w 0) * m
  | 0 => ⟨by show 0 ≤ 99; omega, by show 0 ≤ _; omega⟩
  | m + 1 => by
    have h := pC_le w k nd m
    have h2 : pP w k nd m (pC w k nd m) ≤ tn (w 0) := pG_le _ _
    rw [pC, Nat.mul_add]
    omega
theorem m_59 (h : PN w fa nd) (k : Nat) (hk : k ≤ 9) (x2 : Int32) (k44 : Int32 → Int32 → Int32 → (Nat → Int32) → (Nat → Int32) → Option (Int32 × (Nat → Int32) × (Nat → Int32))) (m c : Nat) (hm : m < 99) (hc : c ≤ 99) (T R : Nat → Int32) (hT : ∀ m c, m ≤ 99 → c ≤ 99 → T (100 * m + c) = pM w k nd (99 - m) c) :
    ∀ (j z g : Nat), fa - g = j → j < z → g ≤ fa → g_X11_step_59 w (nI k) x2 k44 z (nI c) (nI (pG (fun g => pM w k nd (98 - m) (min (c + g) 99) - nI (k * g)) g)) (nI m) (pB (fun g => pM w k nd (98 - m) (min (c + g) 99) - nI (k * g)) g) (nI (g + 1)) R T = k44 (nI (min (c + pP w k nd m c) 99)) (nI (pP w k nd m c)) (nI (m + 1)) R T
  | _, 0, _, _, h, _ => absurd h (Nat.not_lt_zero _)
  | j, z + 1, g, h1, h2, h3 => by
    have hb := h.1
    have h0 : tn (w 0) = fa := by rw [h.2.1, tn_of (by omega)]
    rw [g_X11_step_59]
    unfold g_X11_step_59b
    by_cases e : fa < g + 1
    · have hg : g = fa := by omega
      have hP : pG (fun g => pM w k nd (98 - m) (min (c + g) 99) - nI (k * g)) fa = pP w k nd m c := by unfold pP; rw [h0]
      have hPl : pP w k nd m c ≤ fa := by rw [← hP]; exact pG_le _ _
      rw [hg, hP]
      simp (disch := omega) only [n_z1, n_z2, n_z3, n_z4, n_z5, n_z6, n_z7, n_z8, n_leL, n_leR, n_ltL, n_ltR, n_eqL, n_eqR, n_m1R, n_addL, n_addR, n_mulL, n_mulR, n_subR, n_subL, n_add, n_mul, n_neg, n_sub, n_le, n_lt, n_eq, nI_clamp, if_true, if_false, if_pos, if_neg, or_false, false_or, not_false_eq_true, not_true_eq_false, h.2.1]
      unfold g_X11_step_152
      by_cases e1 : 99 ≤ c + pP w k nd m c
      · rw [if_pos e1, show min (c + pP w k nd m c) 99 = 99 by omega, n_addR]
        rfl
      · rw [if_neg e1, show min (c + pP w k nd m c) 99 = c + pP w k nd m c by omega, n_addR]
    · have hPl : pG (fun g => pM w k nd (98 - m) (min (c + g) 99) - nI (k * g)) g ≤ g := pG_le _ _
      simp (disch := omega) only [n_z1, n_z2, n_z3, n_z4, n_z5, n_z6, n_z7, n_z8, n_leL, n_leR, n_ltL, n_ltR, n_eqL, n_eqR, n_m1R, n_addL, n_addR, n_mulL, n_mulR, n_subR, n_subL, n_add, n_mul, n_neg, n_sub, n_le, n_lt, n_eq, nI_clamp, if_true, if_false, if_pos, if_neg, or_false, false_or, not_false_eq_true, not_true_eq_false, h.2.1]
      have q1 := nI_kg hk (show g + 1 ≤ 4 by omega)
      have ih := m_59 h k hk x2 k44 m c hm hc T R hT (j - 1) z (g + 1) (by omega) (by omega) (by omega)
      have hT2 := hT (m + 1) (min (c + (g + 1)) 99) (by omega) (by omega)
      rw [show 99 - (m + 1) = 98 - m by omega] at hT2
      have key : ∀ t, t = min (c + (g + 1)) 99 → g_X11_step_99 w (nI k) x2 k44 (g_X11_step_59 w (nI k) x2 k44 z) (nI c) (nI (pG (fun g => pM w k nd (98 - m) (min (c + g) 99) - nI (k * g)) g)) (nI m) (pB (fun g => pM w k nd (98 - m) (min (c + g) 99) - nI (k * g)) g) (nI (g + 1)) (nI (100 * (m + 1))) (nI t) R T = k44 (nI (min (c + pP w k nd m c) 99)) (nI (pP w k nd m c)) (nI (m + 1)) R T := by
        intro t ht
        have ht2 : t ≤ 99 := by omega
        unfold g_X11_step_99 g_X11_step_120 g_X11_step_128
        simp (disch := omega) only [n_z1, n_z2, n_z3, n_z4, n_z5, n_z6, n_z7, n_z8, n_leL, n_leR, n_ltL, n_ltR, n_eqL, n_eqR, n_m1R, n_addL, n_addR, n_mulL, n_mulR, n_subR, n_subL, n_add, n_mul, n_neg, n_sub, n_le, n_lt, n_eq, nI_clamp, if_true, if_false, if_pos, if_neg, or_false, false_or, not_false_eq_true, not_true_eq_false]
        rw [ht, hT2]
        rw [pB, pG] at ih
        by_cases e2 : pB (fun g => pM w k nd (98 - m) (min (c + g) 99) - nI (k * g)) g < pM w k nd (98 - m) (min (c + (g + 1)) 99) - nI (k * (g + 1))
        · rw [if_neg (Int32.not_le.mpr e2)]
          rw [if_pos e2, if_pos e2] at ih
          exact ih
        · rw [if_pos (Int32.not_lt.mp e2)]
          rw [if_neg e2, if_neg e2] at ih
          exact ih
      by_cases e1 : 99 ≤ c + (g + 1)
      · rw [if_pos e1]
        exact key 99 (by omega)
      · rw [if_neg e1]
        exact key (c + (g + 1)) (by omega)
theorem m_44 (h : PN w fa nd) (k : Nat) (hk : k ≤ 9) (n : Nat) (hn : n ≤ 98) (T R : Nat → Int32) (hT : ∀ m c, m ≤ 99 → c ≤ 99 → T (100 * m + c) = pM w k nd (99 - m) c) :
    ∀ (j z m : Nat) (x : Int32), n + 1 - m = j → j < z → m ≤ n + 1 → (m = n + 1 → x = nI (pP w k nd n (pC w k nd n))) → g_X11_step_44 w (nI k) (nI n) z (nI (pC w k nd m)) x (nI m) R T = some (nI (pP w k nd n (pC w k nd n)), R, T)
  | _, 0, _, _, _, h, _, _ => absurd h (Nat.not_lt_zero _)
  | j, z + 1, m, x, h1, h2, h3, h4 => by
    have hb := h.1
    rw [g_X11_step_44]
    unfold g_X11_step_44b
    by_cases e : n < m
    · simp (disch := omega) only [n_z1, n_z2, n_z3, n_z4, n_z5, n_z6, n_z7, n_z8, n_leL, n_leR, n_ltL, n_ltR, n_eqL, n_eqR, n_m1R, n_addL, n_addR, n_mulL, n_mulR, n_subR, n_subL, n_add, n_mul, n_neg, n_sub, n_le, n_lt, n_eq, nI_clamp, if_true, if_false, if_pos, if_neg, or_false, false_or, not_false_eq_true, not_true_eq_false]
      rw [h4 (by omega)]
    · simp (disch := omega) only [n_z1, n_z2, n_z3, n_z4, n_z5, n_z6, n_z7, n_z8, n_leL, n_leR, n_ltL, n_ltR, n_eqL, n_eqR, n_m1R, n_addL, n_addR, n_mulL, n_mulR, n_subR, n_subL, n_add, n_mul, n_neg, n_sub, n_le, n_lt, n_eq, nI_clamp, if_true, if_false, if_pos, if_neg, or_false, false_or, not_false_eq_true, not_true_eq_false]
      have hc := pC_le w k nd m
      have q := m_59 h k hk (nI n) (g_X11_step_44 w (nI k) (nI n) z) m (pC w k nd m) (by omega) hc.1 T R hT fa 65535 0 rfl (by omega) (by omega)
      have ih := m_44 h k hk n hn T R hT (j - 1) z (m + 1) (nI (pP w k nd m (pC w k nd m))) (by omega) (by omega) (by omega) (fun e => by rw [show m = n by omega])
      rw [pC] at ih
      rw [ih] at q
      rw [← q]
      have hT2 := hT (m + 1) (min (pC w k nd m + 0) 99) (by omega) (by omega)
      rw [show 99 - (m + 1) = 98 - m by omega] at hT2
      rw [show zF = 65535 + 1 from rfl, g_X11_step_59]
      unfold g_X11_step_59b
      rw [if_neg (show ¬ w 0 < 0 by rw [h.2.1]; simp (disch := omega) only [n_z1, n_z2, n_z3, n_z4, n_z5, n_z6, n_z7, n_z8, n_leL, n_leR, n_ltL, n_ltR, n_eqL, n_eqR, n_m1R, n_addL, n_addR, n_mulL, n_mulR, n_subR, n_subL, n_add, n_mul, n_neg, n_sub, n_le, n_lt, n_eq, nI_clamp, if_true, if_false, if_pos, if_neg, or_false, false_or, not_false_eq_true, not_true_eq_false]; omega)]
      have key : ∀ t, t = min (pC w k nd m + 0) 99 → g_X11_step_99 w (nI k) (nI n) (g_X11_step_44 w (nI k) (nI n) z) (g_X11_step_59 w (nI k) (nI n) (g_X11_step_44 w (nI k) (nI n) z) 65535) (nI (pC w k nd m)) 0 (nI m) 0 0 (100 * (nI m + 1)) (nI t) R T = g_X11_step_59 w (nI k) (nI n) (g_X11_step_44 w (nI k) (nI n) z) 65535 (nI (pC w k nd m)) (nI (pG (fun g => pM w k nd (98 - m) (min (pC w k nd m + g) 99) - nI (k * g)) 0)) (nI m) (pB (fun g => pM w k nd (98 - m) (min (pC w k nd m + g) 99) - nI (k * g)) 0) (nI (0 + 1)) R T := by
        intro t ht
        have ht2 : t ≤ 99 := by omega
        unfold g_X11_step_99 g_X11_step_120 g_X11_step_128
        simp (disch := omega) only [n_z1, n_z2, n_z3, n_z4, n_z5, n_z6, n_z7, n_z8, n_leL, n_leR, n_ltL, n_ltR, n_eqL, n_eqR, n_m1R, n_addL, n_addR, n_mulL, n_mulR, n_subR, n_subL, n_add, n_mul, n_neg, n_sub, n_le, n_lt, n_eq, nI_clamp, if_true, if_false, if_pos, if_neg, or_false, false_or, not_false_eq_true, not_true_eq_false]
        rw [ht, hT2]
        rfl
      by_cases e1 : 99 ≤ pC w k nd m
      · rw [if_pos (show 99 ≤ nI (pC w k nd m) + 0 by simp (disch := omega) only [n_z1, n_z2, n_z3, n_z4, n_z5, n_z6, n_z7, n_z8, n_leL, n_leR, n_ltL, n_ltR, n_eqL, n_eqR, n_m1R, n_addL, n_addR, n_mulL, n_mulR, n_subR, n_subL, n_add, n_mul, n_neg, n_sub, n_le, n_lt, n_eq, nI_clamp, if_true, if_false, if_pos, if_neg, or_false, false_or, not_false_eq_true, not_true_eq_false]; omega)]
        exact key 99 (by omega)
      · rw [if_neg (show ¬ 99 ≤ nI (pC w k nd m) + 0 by simp (disch := omega) only [n_z1, n_z2, n_z3, n_z4, n_z5, n_z6, n_z7, n_z8, n_leL, n_leR, n_ltL, n_ltR, n_eqL, n_eqR, n_m1R, n_addL, n_addR, n_mulL, n_mulR, n_subR, n_subL, n_add, n_mul, n_neg, n_sub, n_le, n_lt, n_eq, nI_clamp, if_true, if_false, if_pos, if_neg, or_false, false_or, not_false_eq_true, not_true_eq_false]; omega)]
        rw [show nI (pC w k nd m) + 0 = nI (pC w k nd m) from n_z8]
        exact key (pC w k nd m) (by omega)
end
