/-! THE RULE: the reference's steps where a unit is due -/
section
variable {w c : Nat → Int32} {L : Nat}
theorem m_num20 (hw : w 7 = nI L) (hf : ∀ j, j < L → w (115 + j) = c j) (hT : TXT c L) (d : Int32) (p a : Nat) (ha : a < 80) (m : Int32) (W T : Nat → Int32) : ∀ (k n q : Nat), L - q ≤ k → k < n → p ≤ q → q ≤ L → q - p ≤ 6 →
    g_X11_takesUnit_20 w d n (nI p) (nI (nv c p (q - p))) (nI a) m (nI q) W T = if dE c L q - p ≤ 6 then some (1, nI (a + 1), m, nI (dE c L q), W, upd T a (nI (nv c p (dE c L q - p)))) else some (nI (10 * p + 2), nI a, m, nI (p + 6), W, T)
  | _, 0, _, _, h, _, _, _ => absurd h (Nat.not_lt_zero _)
  | k, n + 1, q, h1, h2, h3, h4, h5 => by
    have hL := hT.1
    rw [g_X11_takesUnit_20]
    unfold g_X11_takesUnit_20b g_X11_takesUnit_106
    by_cases e : L ≤ q
    · have hd : dE c L q = q := by rw [dE, dif_neg (by omega)]
      rw [hd]
      simp (disch := omega) only [n_z1, n_z2, n_z3, n_z4, n_z5, n_z6, n_z7, n_z8, n_leL, n_leR, n_ltL, n_ltR, n_eqL, n_eqR, n_m1R, n_addL, n_addR, n_mulL, n_mulR, n_subR, n_subL, n_add, n_mul, n_neg, n_sub, n_le, n_lt, n_eq, nI_clamp, if_true, if_false, if_pos, if_neg, or_false, false_or, not_false_eq_true, not_true_eq_false, hw]
    · simp (disch := omega) only [n_z1, n_z2, n_z3, n_z4, n_z5, n_z6, n_z7, n_z8, n_leL, n_leR, n_ltL, n_ltR, n_eqL, n_eqR, n_m1R, n_addL, n_addR, n_mulL, n_mulR, n_subR, n_subL, n_add, n_mul, n_neg, n_sub, n_le, n_lt, n_eq, nI_clamp, if_true, if_false, if_pos, if_neg, or_false, false_or, not_false_eq_true, not_true_eq_false, hw, hf q (show q < L by omega), m_isFigure, pb_some]
      by_cases e2 : isDg (c q)
      · have hd : dE c L q = dE c L (q + 1) := by rw [dE, dif_pos ⟨by omega, e2⟩]
        have g1 := dE_ge c L _ (q + 1) (Nat.le_refl _)
        rw [if_pos e2, if_neg (by decide), hd]
        by_cases e3 : q - p = 6
        · rw [if_pos e3, if_neg (by omega), show q = p + 6 by omega]
        · rw [if_neg e3, dg_n e2]
          have ih := m_num20 hw hf hT d p a ha m W T (k - 1) n (q + 1) (by omega) (by omega) (by omega) (by omega) (by omega)
          rw [← ih, show q + 1 - p = q - p + 1 by omega, nv, show p + (q - p) = q by omega]
      · have hd : dE c L q = q := by rw [dE, dif_neg (fun h => e2 h.2)]
        rw [if_neg e2, if_pos rfl, hd, if_pos h5]
theorem m_round1 (n : Nat) (d a m : Int32) (q : Nat) (H W T : Nat → Int32) :
    g_X11_compile_26 w (n + 1) d (nI 1) a m (nI q) H W T = (g_X11_takesUnit w d a m (nI q) W T).bind fun v19 =>
    if 1 < v19.1 then some (v19.1, v19.2.1, v19.2.2.1, v19.2.2.2.1, H, v19.2.2.2.2.1, v19.2.2.2.2.2) else
      if v19.1 = 1 then (if v19.2.1 = 0 then some (v19.1, v19.2.1, v19.2.2.1, v19.2.2.2.1, H, v19.2.2.2.2.1, v19.2.2.2.2.2) else g_X11_compile_55 w (g_X11_compile_26 w n) d (nI 1) v19.1 v19.2.1 v19.2.2.1 v19.2.2.2.1 H v19.2.2.2.2.1 v19.2.2.2.2.2)
      else g_X11_compile_55 w (g_X11_compile_26 w n) d (nI 1) v19.1 v19.2.1 v19.2.2.1 v19.2.2.2.1 H v19.2.2.2.2.1 v19.2.2.2.2.2 := by
  rw [g_X11_compile_26]
  unfold g_X11_compile_26b
  rw [if_neg (by decide)]
/-- a unit was had: what holds as tightly as a prefix is done -/
theorem m_had {Φ : Int32 → Int32 → (Nat → Int32) → Prop} {d n q q' : Nat} {A S : List Int32} {e : Int32} {H W T T1 : Nat → Int32} (hL : L ≤ 40) (hl : S.length + A.length ≤ q) (hq : q < q') (hq2 : q' ≤ L) (hn : L + 1 - q < n + 1)
    (hu : g_X11_takesUnit w (nI d) (nI A.length) (nI S.length) (nI q) W T = some (1, nI (A.length + 1), nI S.length, nI q', W, T1)) (hS : Stk W S) (hA : Stk T1 (e :: A))
    (hg : GD w L Φ d 0 (fls 6 S (e :: A)).2 (fls 6 S (e :: A)).1 q' H) :
    ∃ code a m p H' W' T', g_X11_compile_26 w (n + 1) (nI d) (nI 1) (nI A.length) (nI S.length) (nI q) H W T = some (code, a, m, p, H', W', T') ∧ Φ code a T' := by
  rw [m_round1, hu, pb_some]
  dsimp only
  rw [if_neg (by decide), if_pos rfl, if_neg (by simp (disch := omega) only [n_z1, n_z2, n_z3, n_z4, n_z5, n_z6, n_z7, n_z8, n_leL, n_leR, n_ltL, n_ltR, n_eqL, n_eqR, n_m1R, n_addL, n_addR, n_mulL, n_mulR, n_subR, n_subL, n_add, n_mul, n_neg, n_sub, n_le, n_lt, n_eq, nI_clamp, if_true, if_false, if_pos, if_neg, or_false, false_or, not_false_eq_true, not_true_eq_false]; omega)]
  unfold g_X11_compile_55
  rw [if_neg (by decide)]
  unfold g_X11_compile_85
  rw [if_pos rfl]
  obtain ⟨T'', m1, m2, m3⟩ := m_does (W := W) 6 (by omega) S (e :: A) T1 zF (by show _ < 65536; omega) (by rw [List.length_cons]; omega) hS hA
  have m1' : g_X11_does W 6 (nI (A.length + 1)) (nI S.length) T1 = _ := m1
  rw [m1', pb_some]
  exact hg n W T'' (by omega) m2 m3
theorem m_num (hw : w 7 = nI L) (hf : ∀ j, j < L → w (115 + j) = c j) (hT : TXT c L) {Φ : Int32 → Int32 → (Nat → Int32) → Prop} {d q : Nat} {A S : List Int32} {H : Nat → Int32} (hq : q ≤ L) (hl : S.length + A.length ≤ q)
    (h1 : isDg (ah c L q)) (h2 : dE c L (sk c L q) - sk c L q ≤ 6)
    (hg : ∀ v, v = nI (nv c (sk c L q) (dE c L (sk c L q) - sk c L q)) → GD w L Φ d 0 (fls 6 S (v :: A)).2 (fls 6 S (v :: A)).1 (dE c L (sk c L q)) H) : GD w L Φ d 1 A S q H := by
  intro n W T hn hS hA
  have hL := hT.1
  obtain ⟨n, rfl⟩ : ∃ k, n = k + 1 := ⟨n - 1, by omega⟩
  have ha := ah_ne hT (dg_kind h1).2.2.2.2.2.2
  have g1 := sk_ge c L _ q (Nat.le_refl _)
  have g2 := dE_dg ha.1 (ha.2 ▸ h1)
  have g3 := dE_le c L _ (sk c L q) (Nat.le_refl _) (by omega)
  refine m_had (q' := dE c L (sk c L q)) (e := nI (nv c (sk c L q) (dE c L (sk c L q) - sk c L q))) hL hl (by omega) g3 hn (T1 := upd T A.length (nI (nv c (sk c L q) (dE c L (sk c L q) - sk c L q)))) ?_ hS (stk_push _ hA) (hg _ rfl)
  unfold g_X11_takesUnit
  rw [m_here hw hf hL (show q < 1000 by omega)]
  simp only [pb_some, m_isFigure]
  rw [if_pos h1, if_neg (by decide)]
  have h := m_num20 hw hf hT (nI d) (sk c L q) A.length (by omega) (nI S.length) W T 40 zF (sk c L q) (by omega) (by decide) (Nat.le_refl _) (by omega) (by omega)
  rw [Nat.sub_self, if_pos h2] at h
  exact h
theorem m_longn (hw : w 7 = nI L) (hf : ∀ j, j < L → w (115 + j) = c j) (hT : TXT c L) {Φ : Int32 → Int32 → (Nat → Int32) → Prop} {d q : Nat} {A S : List Int32} {H : Nat → Int32} (hq : q ≤ L) (hl : S.length + A.length ≤ q)
    (h1 : isDg (ah c L q)) (h2 : ¬ dE c L (sk c L q) - sk c L q ≤ 6)
    (hg : ∀ a T, Φ (nI (10 * sk c L q + 2)) a T) : GD w L Φ d 1 A S q H := by
  intro n W T hn hS hA
  have hL := hT.1
  obtain ⟨n, rfl⟩ : ∃ k, n = k + 1 := ⟨n - 1, by omega⟩
  have ha := ah_ne hT (dg_kind h1).2.2.2.2.2.2
  rw [m_round1]
  have hu : g_X11_takesUnit w (nI d) (nI A.length) (nI S.length) (nI q) W T = some (nI (10 * sk c L q + 2), nI A.length, nI S.length, nI (sk c L q + 6), W, T) := by
    unfold g_X11_takesUnit
    rw [m_here hw hf hL (show q < 1000 by omega)]
    simp only [pb_some, m_isFigure]
    rw [if_pos h1, if_neg (by decide)]
    have h := m_num20 hw hf hT (nI d) (sk c L q) A.length (by omega) (nI S.length) W T 40 zF (sk c L q) (by omega) (by decide) (Nat.le_refl _) (by omega) (by omega)
    rw [Nat.sub_self, if_neg h2] at h
    exact h
  rw [hu, pb_some]
  simp (disch := omega) only [n_z1, n_z2, n_z3, n_z4, n_z5, n_z6, n_z7, n_z8, n_leL, n_leR, n_ltL, n_ltR, n_eqL, n_eqR, n_m1R, n_addL, n_addR, n_mulL, n_mulR, n_subR, n_subL, n_add, n_mul, n_neg, n_sub, n_le, n_lt, n_eq, nI_clamp, if_true, if_false, if_pos, if_neg, or_false, false_or, not_false_eq_true, not_true_eq_false]
  exact ⟨_, _, _, _, _, _, _, rfl, hg _ _⟩
theorem m_nam (hw : w 7 = nI L) (hf : ∀ j, j < L → w (115 + j) = c j) (hT : TXT c L) {Φ : Int32 → Int32 → (Nat → Int32) → Prop} {d q : Nat} {A S : List Int32} {H : Nat → Int32} (hq : q ≤ L) (hl : S.length + A.length ≤ q)
    (h1 : nmN (ah c L q) ≤ 5)
    (hg : GD w L Φ d 0 (fls 6 S (-(ah c L q) :: A)).2 (fls 6 S (-(ah c L q) :: A)).1 (sk c L q + 1) H) : GD w L Φ d 1 A S q H := by
  intro n W T hn hS hA
  have hL := hT.1
  obtain ⟨n, rfl⟩ : ∃ k, n = k + 1 := ⟨n - 1, by omega⟩
  have hne := nm_ne h1
  have ha := ah_ne hT hne.1
  have g1 := sk_ge c L _ q (Nat.le_refl _)
  refine m_had (q' := sk c L q + 1) (e := -(ah c L q)) hL hl (by omega) (by omega) hn (T1 := upd T A.length (-(ah c L q))) ?_ hS (stk_push _ hA) hg
  unfold g_X11_takesUnit
  rw [m_here hw hf hL (show q < 1000 by omega)]
  simp only [pb_some, m_isFigure, m_isName]
  rw [if_neg hne.2.2.2, if_pos rfl, if_neg (show nmN (ah c L q) ≠ 9 by omega), if_neg (by decide)]
  simp (disch := omega) only [n_z1, n_z2, n_z3, n_z4, n_z5, n_z6, n_z7, n_z8, n_leL, n_leR, n_ltL, n_ltR, n_eqL, n_eqR, n_m1R, n_addL, n_addR, n_mulL, n_mulR, n_subR, n_subL, n_add, n_mul, n_neg, n_sub, n_le, n_lt, n_eq, nI_clamp, if_true, if_false, if_pos, if_neg, or_false, false_or, not_false_eq_true, not_true_eq_false]
/-- a sign that waits ahead of a unit -/
theorem m_wait (hw : w 7 = nI L) (hf : ∀ j, j < L → w (115 + j) = c j) (hT : TXT c L) {d q : Nat} {A S : List Int32} {W T : Nat → Int32} (hq : q ≤ L) (hl : S.length + A.length ≤ q)
    (h1 : isPf (ah c L q) ∨ (ah c L q = 40 ∧ d < 8)) :
    g_X11_takesUnit w (nI d) (nI A.length) (nI S.length) (nI q) W T = some (0, nI A.length, nI (S.length + 1), nI (sk c L q + 1), upd W S.length (if ah c L q = 45 then 126 else ah c L q), T) := by
  have hL := hT.1
  have hx : ah c L q = 40 ∨ ah c L q = 33 ∨ ah c L q = 45 := by
    rcases h1 with (h | h) | h
    · exact Or.inr (Or.inl h)
    · exact Or.inr (Or.inr h)
    · exact Or.inl h.1
  have hk : ∀ x : Int32, (x = 40 ∨ x = 33 ∨ x = 45) → ¬ isDg x ∧ nmN x = 9 := by
    rintro x (e | e | e) <;> subst e <;> exact ⟨by decide, by decide⟩
  obtain ⟨k1, k2⟩ := hk _ hx
  unfold g_X11_takesUnit
  rw [m_here hw hf hL (show q < 1000 by omega)]
  simp only [pb_some, m_isFigure, m_isName]
  rw [if_neg k1, if_pos rfl, if_pos k2, if_pos rfl]
  have h9 : ∀ x : Int32, g_X11_takesUnit_239 w (nI d) (nI S.length) x (nI A.length) (nI S.length) (nI (sk c L q)) W T = some (0, nI A.length, nI (S.length + 1), nI (sk c L q + 1), upd W S.length x, T) := by
    intro x
    unfold g_X11_takesUnit_239
    simp (disch := omega) only [n_z1, n_z2, n_z3, n_z4, n_z5, n_z6, n_z7, n_z8, n_leL, n_leR, n_ltL, n_ltR, n_eqL, n_eqR, n_m1R, n_addL, n_addR, n_mulL, n_mulR, n_subR, n_subL, n_add, n_mul, n_neg, n_sub, n_le, n_lt, n_eq, nI_clamp, if_true, if_false, if_pos, if_neg, or_false, false_or, not_false_eq_true, not_true_eq_false]
  have h8 : g_X11_takesUnit_191 w (nI d) (ah c L q) (nI A.length) (nI S.length) (nI (sk c L q)) W T = some (0, nI A.length, nI (S.length + 1), nI (sk c L q + 1), upd W S.length (if ah c L q = 45 then 126 else ah c L q), T) := by
    unfold g_X11_takesUnit_191 g_X11_takesUnit_219
    rw [h9, h9]
    rcases hx with e | e | e
    · rw [if_pos e, if_neg (by rw [e]; decide), if_neg (by rw [e]; decide)]
    · rw [if_neg (by rw [e]; decide), if_pos e, if_neg (by rw [e]; decide), if_neg (by rw [e]; decide)]
    · rw [if_neg (by rw [e]; decide), if_neg (by rw [e]; decide), if_pos e, if_pos e, if_pos e]
  rw [h8]
  by_cases e : ah c L q = 40
  · rw [if_pos e]
    have hd : d < 8 := by
      rcases h1 with (h | h) | h
      · rw [h] at e; exact absurd e (by decide)
      · rw [h] at e; exact absurd e (by decide)
      · exact h.2
    simp (disch := omega) only [n_z1, n_z2, n_z3, n_z4, n_z5, n_z6, n_z7, n_z8, n_leL, n_leR, n_ltL, n_ltR, n_eqL, n_eqR, n_m1R, n_addL, n_addR, n_mulL, n_mulR, n_subR, n_subL, n_add, n_mul, n_neg, n_sub, n_le, n_lt, n_eq, nI_clamp, if_true, if_false, if_pos, if_neg, or_false, false_or, not_false_eq_true, not_true_eq_false]
  · rw [if_neg e]
theorem m_pre (hw : w 7 = nI L) (hf : ∀ j, j < L → w (115 + j) = c j) (hT : TXT c L) {Φ : Int32 → Int32 → (Nat → Int32) → Prop} {d q : Nat} {A S : List Int32} {H : Nat → Int32} (hq : q ≤ L) (hl : S.length + A.length ≤ q)
    (h1 : isPf (ah c L q)) (hg : GD w L Φ d 1 A ((if ah c L q = 45 then 126 else ah c L q) :: S) (sk c L q + 1) H) : GD w L Φ d 1 A S q H := by
  intro n W T hn hS hA
  have hL := hT.1
  obtain ⟨n, rfl⟩ : ∃ k, n = k + 1 := ⟨n - 1, by omega⟩
  have ha := ah_ne hT (pf_ne h1).1
  have g1 := sk_ge c L _ q (Nat.le_refl _)
  rw [m_round1, m_wait hw hf hT hq hl (Or.inl h1), pb_some]
  dsimp only
  rw [if_neg (by decide), if_neg (by decide)]
  unfold g_X11_compile_55
  rw [if_pos rfl]
  simp (disch := omega) only [n_z1, n_z2, n_z3, n_z4, n_z5, n_z6, n_z7, n_z8, n_leL, n_leR, n_ltL, n_ltR, n_eqL, n_eqR, n_m1R, n_addL, n_addR, n_mulL, n_mulR, n_subR, n_subL, n_add, n_mul, n_neg, n_sub, n_le, n_lt, n_eq, nI_clamp, if_true, if_false, if_pos, if_neg, or_false, false_or, not_false_eq_true, not_true_eq_false, Nat.add_sub_cancel]
  have hx : upd W S.length (if ah c L q = 45 then 126 else ah c L q) S.length ≠ 40 := by
    rw [upd_eq, if_pos rfl]
    rcases h1 with e | e <;> rw [e] <;> decide
  rw [if_neg hx]
  unfold g_X11_compile_85
  rw [if_neg (by decide)]
  have h := hg n _ T (by omega) (stk_push (if ah c L q = 45 then 126 else ah c L q) hS) hA
  rw [List.length_cons] at h
  exact h
theorem m_open (hw : w 7 = nI L) (hf : ∀ j, j < L → w (115 + j) = c j) (hT : TXT c L) {Φ : Int32 → Int32 → (Nat → Int32) → Prop} {d q : Nat} {A S : List Int32} {H : Nat → Int32} (hq : q ≤ L) (hl : S.length + A.length ≤ q)
    (h1 : ah c L q = 40) (h2 : d < 8) (hg : GD w L Φ (d + 1) 1 A (40 :: S) (sk c L q + 1) (upd H (d + 1) 0)) : GD w L Φ d 1 A S q H := by
  intro n W T hn hS hA
  have hL := hT.1
  obtain ⟨n, rfl⟩ : ∃ k, n = k + 1 := ⟨n - 1, by omega⟩
  have ha := ah_ne hT (q := q) (by rw [h1]; decide)
  have g1 := sk_ge c L _ q (Nat.le_refl _)
  rw [m_round1, m_wait hw hf hT hq hl (Or.inr ⟨h1, h2⟩), pb_some]
  dsimp only
  rw [if_neg (by decide), if_neg (by decide), if_neg (show ¬ ah c L q = 45 by rw [h1]; decide), h1]
  unfold g_X11_compile_55
  rw [if_pos rfl]
  simp (disch := omega) only [n_z1, n_z2, n_z3, n_z4, n_z5, n_z6, n_z7, n_z8, n_leL, n_leR, n_ltL, n_ltR, n_eqL, n_eqR, n_m1R, n_addL, n_addR, n_mulL, n_mulR, n_subR, n_subL, n_add, n_mul, n_neg, n_sub, n_le, n_lt, n_eq, nI_clamp, if_true, if_false, if_pos, if_neg, or_false, false_or, not_false_eq_true, not_true_eq_false, Nat.add_sub_cancel]
  rw [if_pos (show upd W S.length 40 S.length = 40 by rw [upd_eq, if_pos rfl])]
  unfold g_X11_compile_85
  rw [if_neg (by decide)]
  have h := hg n _ T (by omega) (stk_push 40 hS) hA
  rw [List.length_cons] at h
  exact h
theorem m_deep (hw : w 7 = nI L) (hf : ∀ j, j < L → w (115 + j) = c j) (hT : TXT c L) {Φ : Int32 → Int32 → (Nat → Int32) → Prop} {q : Nat} {A S : List Int32} {H : Nat → Int32} (hq : q ≤ L) (hl : S.length + A.length ≤ q)
    (h1 : ah c L q = 40) (hg : ∀ a T, Φ (nI (10 * sk c L q + 3)) a T) : GD w L Φ 8 1 A S q H := by
  intro n W T hn hS hA
  have hL := hT.1
  obtain ⟨n, rfl⟩ : ∃ k, n = k + 1 := ⟨n - 1, by omega⟩
  have ha := ah_ne hT (q := q) (by rw [h1]; decide)
  have hu : g_X11_takesUnit w (nI 8) (nI A.length) (nI S.length) (nI q) W T = some (nI (10 * sk c L q + 3), nI A.length, nI S.length, nI (sk c L q), W, T) := by
    unfold g_X11_takesUnit
    rw [m_here hw hf hL (show q < 1000 by omega), h1]
    simp only [pb_some, m_isFigure, m_isName]
    rw [if_neg (show ¬ isDg 40 by decide), if_pos rfl, if_pos (show nmN 40 = 9 by decide), if_pos rfl]
    simp (disch := omega) only [n_z1, n_z2, n_z3, n_z4, n_z5, n_z6, n_z7, n_z8, n_leL, n_leR, n_ltL, n_ltR, n_eqL, n_eqR, n_m1R, n_addL, n_addR, n_mulL, n_mulR, n_subR, n_subL, n_add, n_mul, n_neg, n_sub, n_le, n_lt, n_eq, nI_clamp, if_true, if_false, if_pos, if_neg, or_false, false_or, not_false_eq_true, not_true_eq_false]
  rw [m_round1, hu, pb_some]
  simp (disch := omega) only [n_z1, n_z2, n_z3, n_z4, n_z5, n_z6, n_z7, n_z8, n_leL, n_leR, n_ltL, n_ltR, n_eqL, n_eqR, n_m1R, n_addL, n_addR, n_mulL, n_mulR, n_subR, n_subL, n_add, n_mul, n_neg, n_sub, n_le, n_lt, n_eq, nI_clamp, if_true, if_false, if_pos, if_neg, or_false, false_or, not_false_eq_true, not_true_eq_false]
  exact ⟨_, _, _, _, _, _, _, rfl, hg _ _⟩
theorem m_stray (hw : w 7 = nI L) (hf : ∀ j, j < L → w (115 + j) = c j) (hT : TXT c L) {Φ : Int32 → Int32 → (Nat → Int32) → Prop} {d q : Nat} {A S : List Int32} {H : Nat → Int32} (hq : q ≤ L) (hl : S.length + A.length ≤ q)
    (h1 : ¬ isDg (ah c L q)) (h2 : nmN (ah c L q) = 9) (h3 : ah c L q ≠ 40) (h4 : ¬ isPf (ah c L q)) (hg : ∀ a T, Φ (nI (10 * sk c L q + 1)) a T) : GD w L Φ d 1 A S q H := by
  intro n W T hn hS hA
  have hL := hT.1
  obtain ⟨n, rfl⟩ : ∃ k, n = k + 1 := ⟨n - 1, by omega⟩
  have g1 := sk_ge c L _ q (Nat.le_refl _)
  have g2 := sk_le c L _ q (Nat.le_refl _) hq
  have hu : g_X11_takesUnit w (nI d) (nI A.length) (nI S.length) (nI q) W T = some (nI (10 * sk c L q + 1), nI A.length, nI S.length, nI (sk c L q), W, T) := by
    unfold g_X11_takesUnit
    rw [m_here hw hf hL (show q < 1000 by omega)]
    simp only [pb_some, m_isFigure, m_isName]
    rw [if_neg h1, if_pos rfl, if_pos h2, if_pos rfl, if_neg h3]
    unfold g_X11_takesUnit_191
    rw [if_neg h3, if_neg (fun h => h4 (Or.inl h)), if_neg (fun h => h4 (Or.inr h))]
    simp (disch := omega) only [n_z1, n_z2, n_z3, n_z4, n_z5, n_z6, n_z7, n_z8, n_leL, n_leR, n_ltL, n_ltR, n_eqL, n_eqR, n_m1R, n_addL, n_addR, n_mulL, n_mulR, n_subR, n_subL, n_add, n_mul, n_neg, n_sub, n_le, n_lt, n_eq, nI_clamp, if_true, if_false, if_pos, if_neg, or_false, false_or, not_false_eq_true, not_true_eq_false]
  rw [m_round1, hu, pb_some]
  dsimp only
  by_cases e : sk c L q = 0
  · have hA0 : A.length = 0 := by omega
    rw [hA0, e, if_neg (by decide), if_pos (by decide), if_pos (by rfl)]
    have h := hg (nI 0) T
    rw [e] at h
    exact ⟨_, _, _, _, _, _, _, rfl, h⟩
  · simp (disch := omega) only [n_z1, n_z2, n_z3, n_z4, n_z5, n_z6, n_z7, n_z8, n_leL, n_leR, n_ltL, n_ltR, n_eqL, n_eqR, n_m1R, n_addL, n_addR, n_mulL, n_mulR, n_subR, n_subL, n_add, n_mul, n_neg, n_sub, n_le, n_lt, n_eq, nI_clamp, if_true, if_false, if_pos, if_neg, or_false, false_or, not_false_eq_true, not_true_eq_false]
    exact ⟨_, _, _, _, _, _, _, rfl, hg _ _⟩
end
