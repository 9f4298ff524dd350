/-! THE RULE: the reference's steps -/
section
variable {w c : Nat → Int32} {L : Nat}
def GD (w : Nat → Int32) (L : Nat) (Φ : Int32 → Int32 → (Nat → Int32) → Prop) (d u : Nat) (A S : List Int32) (q : Nat) (H : Nat → Int32) : Prop :=
  ∀ (n : Nat) (W T : Nat → Int32), L + 1 - q < n → Stk W S → Stk T A → ∃ code a m p H' W' T', g_X11_compile_26 w n (nI d) (nI u) (nI A.length) (nI S.length) (nI q) H W T = some (code, a, m, p, H', W', T') ∧ Φ code a T'
theorem m_unit_sk (hw : w 7 = nI L) (hf : ∀ j, j < L → w (115 + j) = c j) (hT : TXT c L) (d a m : Int32) (W T : Nat → Int32) (q : Nat) (hq : q ≤ L) : g_X11_takesUnit w d a m (nI q) W T = g_X11_takesUnit w d a m (nI (sk c L q)) W T := by
  have hL := hT.1
  have h1 := sk_le c L _ q (Nat.le_refl _) hq
  unfold g_X11_takesUnit
  rw [m_here hw hf hL (show q < 1000 by omega), m_here hw hf hL (show sk c L q < 1000 by omega), sk_sk, ah_sk]
theorem gd_sk (hw : w 7 = nI L) (hf : ∀ j, j < L → w (115 + j) = c j) (hT : TXT c L) {Φ : Int32 → Int32 → (Nat → Int32) → Prop} {d u q : Nat} {A S : List Int32} {H : Nat → Int32} (hq : q ≤ L) (hg : GD w L Φ d u A S (sk c L q) H) : GD w L Φ d u A S q H := by
  intro n W T hn hS hA
  have hL := hT.1
  have h1 := sk_le c L _ q (Nat.le_refl _) hq
  have h2 := sk_ge c L _ q (Nat.le_refl _)
  obtain ⟨code, a, m, p, H', W', T', g1, g2⟩ := hg n W T (by omega) hS hA
  refine ⟨code, a, m, p, H', W', T', ?_, g2⟩
  rw [← g1]
  cases n with
  | zero => rfl
  | succ n =>
    rw [g_X11_compile_26, g_X11_compile_26]
    unfold g_X11_compile_26b
    rw [m_here hw hf hL (show q < 1000 by omega), m_here hw hf hL (show sk c L q < 1000 by omega), sk_sk, ah_sk, m_unit_sk hw hf hT _ _ _ _ _ q hq]
/-- one round at a place behind a unit -/
theorem m_round0 (hw : w 7 = nI L) (hf : ∀ j, j < L → w (115 + j) = c j) (hT : TXT c L) (n : Nat) (d a m : Int32) (q : Nat) (hq : q ≤ L) (H W T : Nat → Int32) :
    g_X11_compile_26 w (n + 1) d (nI 0) a m (nI q) H W T = if ah c L q = -1 then (if d = 0 then (g_X11_does W 1 a m T).bind fun v17 => some (-1, v17.1, v17.2.1, nI (sk c L q), H, W, v17.2.2) else g_X11_compile_122 w (g_X11_compile_26 w n) d (nI 0) (ah c L q) a m (nI (sk c L q)) H W T) else g_X11_compile_122 w (g_X11_compile_26 w n) d (nI 0) (ah c L q) a m (nI (sk c L q)) H W T := by
  have hL := hT.1
  rw [g_X11_compile_26]
  unfold g_X11_compile_26b
  rw [if_pos (by rfl), m_here hw hf hL (show q < 1000 by omega)]
  rfl
theorem m_op (hw : w 7 = nI L) (hf : ∀ j, j < L → w (115 + j) = c j) (hT : TXT c L) {Φ : Int32 → Int32 → (Nat → Int32) → Prop} {d q r : Nat} {A1 S1 B S : List Int32} {H : Nat → Int32} (hq : q ≤ L) (hd : d ≤ 8) (hl : S1.length + A1.length ≤ q)
    (hr : r ≤ 4) (hc : rkN (ah c L q) = r) (h2 : r = 2 → H d = 0) (hfl : fls (r + 1) S1 A1 = (S, B))
    (hg : ∀ H1, (∀ j, j < d → (H1 j = 0 ↔ H j = 0)) → (3 ≤ r → (H1 d = 0 ↔ H d = 0)) → (r < 2 → H1 d = 0) → (r = 2 → H1 d ≠ 0) → GD w L Φ d 1 B (ah c L q :: S) (sk c L q + 1) H1) : GD w L Φ d 0 A1 S1 q H := by
  intro n W T hn hS hA
  have hL := hT.1
  have hne := rk_ne (x := ah c L q) (by omega)
  have ha := ah_ne hT hne.1
  have g1 := sk_ge c L _ q (Nat.le_refl _)
  obtain ⟨n, rfl⟩ : ∃ k, n = k + 1 := ⟨n - 1, by omega⟩
  rw [m_round0 hw hf hT n _ _ _ q hq, if_neg hne.1]
  unfold g_X11_compile_122
  rw [if_neg hne.2.2]
  unfold g_X11_compile_169
  have h0 : ¬ ah c L q < 0 := by
    have := (hT.2 _ ha.1).1
    rw [ha.2, Int32.lt_iff_toInt_lt]
    show ¬ (c (sk c L q)).toInt < 0
    omega
  rw [if_neg h0, if_neg hne.2.1, if_neg hne.2.2, m_holds, pb_some]
  have hh : hN (ah c L q) = r + 1 := by unfold hN; rw [if_neg hne.2.1, if_pos (by omega), hc]
  rw [hh]
  unfold g_X11_compile_193
  have hi : g_X11_in (nI (r + 1)).toInt64 1 5 = some 1 := by
    rw [p_in, nI_toInt (by omega), if_pos]
    show (1 : Int) ≤ _ ∧ _ ≤ (5 : Int)
    omega
  rw [hi, pb_some, if_neg (by decide)]
  obtain ⟨T', k1, k2, k3⟩ := m_does (W := W) (r + 1) (by omega) S1 A1 T zF (by show _ < 65536; omega) (by omega) hS hA
  rw [hfl] at k1 k2 k3
  have hlen := fls_len (r + 1) S1 A1
  rw [hfl] at hlen
  have key : ∀ t2 : Int32, t2 = 0 ∨ t2 = 1 → (∀ H1, (H1 = upd H d t2) → (3 ≤ r → (H1 d = 0 ↔ H d = 0)) ∧ (r < 2 → H1 d = 0) ∧ (r = 2 → H1 d ≠ 0)) → ∃ code a m p H' W' T', g_X11_compile_264 w (g_X11_compile_26 w n) (nI d) (ah c L q) (nI (r + 1)) (nI d) t2 (nI A1.length) (nI S1.length) (nI (sk c L q)) H W T = some (code, a, m, p, H', W', T') ∧ Φ code a T' := by
    intro t2 ht hH
    have hv : vp_nar .boolean t2 = t2 := by rcases ht with e | e <;> subst e <;> rfl
    unfold g_X11_compile_264 g_X11_does
    rw [if_neg (nI_in (show d < 9 by omega) (by omega)), k1, pb_some]
    dsimp only at hlen ⊢
    rw [if_neg (nI_in (show S.length < 80 by omega) (by omega)), hv]
    simp (disch := omega) only [n_z1, n_z2, n_z3, n_z4, n_z5, n_z6, n_z7, n_z8, n_leL, n_leR, n_ltL, n_ltR, n_eqL, n_eqR, n_m1R, n_addL, n_addR, n_mulL, n_mulR, n_subR, n_subL, n_add, n_mul, n_neg, n_sub, n_le, n_lt, n_eq, nI_clamp, if_true, if_false, if_pos, if_neg, or_false, false_or, not_false_eq_true, not_true_eq_false]
    obtain ⟨q1, q2, q3⟩ := hH _ rfl
    exact hg (upd H d t2) (fun j hj => by rw [upd_eq, if_neg (by omega)]) q1 q2 q3 n (upd W S.length (ah c L q)) T' (by omega) (stk_push _ k2) k3
  have hud : ∀ t2 : Int32, upd H d t2 d = t2 := fun t2 => by rw [upd_eq, if_pos rfl]
  by_cases e2 : r = 2
  · have e3 := h2 e2
    subst e2
    simp (disch := omega) only [n_z1, n_z2, n_z3, n_z4, n_z5, n_z6, n_z7, n_z8, n_leL, n_leR, n_ltL, n_ltR, n_eqL, n_eqR, n_m1R, n_addL, n_addR, n_mulL, n_mulR, n_subR, n_subL, n_add, n_mul, n_neg, n_sub, n_le, n_lt, n_eq, nI_clamp, if_true, if_false, if_pos, if_neg, or_false, false_or, not_false_eq_true, not_true_eq_false, e3]
    unfold g_X11_compile_233 g_X11_compile_259
    simp (disch := omega) only [n_z1, n_z2, n_z3, n_z4, n_z5, n_z6, n_z7, n_z8, n_leL, n_leR, n_ltL, n_ltR, n_eqL, n_eqR, n_m1R, n_addL, n_addR, n_mulL, n_mulR, n_subR, n_subL, n_add, n_mul, n_neg, n_sub, n_le, n_lt, n_eq, nI_clamp, if_true, if_false, if_pos, if_neg, or_false, false_or, not_false_eq_true, not_true_eq_false]
    exact key 1 (Or.inr rfl) (fun H1 e => by subst e; rw [hud]; exact ⟨fun h => by omega, fun h => by omega, fun _ => by decide⟩)
  · simp (disch := omega) only [n_z1, n_z2, n_z3, n_z4, n_z5, n_z6, n_z7, n_z8, n_leL, n_leR, n_ltL, n_ltR, n_eqL, n_eqR, n_m1R, n_addL, n_addR, n_mulL, n_mulR, n_subR, n_subL, n_add, n_mul, n_neg, n_sub, n_le, n_lt, n_eq, nI_clamp, if_true, if_false, if_pos, if_neg, or_false, false_or, not_false_eq_true, not_true_eq_false]
    unfold g_X11_compile_233 g_X11_compile_259 g_X11_compile_263
    simp (disch := omega) only [n_z1, n_z2, n_z3, n_z4, n_z5, n_z6, n_z7, n_z8, n_leL, n_leR, n_ltL, n_ltR, n_eqL, n_eqR, n_m1R, n_addL, n_addR, n_mulL, n_mulR, n_subR, n_subL, n_add, n_mul, n_neg, n_sub, n_le, n_lt, n_eq, nI_clamp, if_true, if_false, if_pos, if_neg, or_false, false_or, not_false_eq_true, not_true_eq_false]
    by_cases e4 : r + 1 ≤ 3
    · rw [if_pos e4]
      exact key 0 (Or.inl rfl) (fun H1 e => by subst e; rw [hud]; exact ⟨fun h => by omega, fun h => rfl, fun h => absurd h e2⟩)
    · rw [if_neg e4]
      by_cases e5 : H d = 0
      · rw [if_pos e5]
        exact key 0 (Or.inl rfl) (fun H1 e => by subst e; rw [hud, e5]; exact ⟨fun h => Iff.rfl, fun h => rfl, fun h => absurd h e2⟩)
      · rw [if_neg e5]
        exact key 1 (Or.inr rfl) (fun H1 e => by subst e; rw [hud]; exact ⟨fun h => ⟨fun k => absurd k (by decide), fun k => absurd k e5⟩, fun h => by omega, fun h => absurd h e2⟩)
def EX (r : Nat) (x h : Int32) : Prop := ¬ (r ≤ rkN x ∧ rkN x ≤ 4) ∨ (rkN x = 2 ∧ h ≠ 0 ∧ r ≤ 2)
theorem m_halt (hw : w 7 = nI L) (hf : ∀ j, j < L → w (115 + j) = c j) (hT : TXT c L) {Φ : Int32 → Int32 → (Nat → Int32) → Prop} {d q : Nat} {A S : List Int32} {H : Nat → Int32} (hq : q ≤ L) (hd : d ≤ 8)
    (h1 : d = 0 → ah c L q ≠ -1) (h2 : 0 < d → ah c L q ≠ 41) (hE : EX 0 (ah c L q) (H d)) (hg : ∀ a T, Φ (nI (10 * sk c L q + 1)) a T) : GD w L Φ d 0 A S q H := by
  intro n W T hn hS hA
  have hL := hT.1
  obtain ⟨n, rfl⟩ : ∃ k, n = k + 1 := ⟨n - 1, by omega⟩
  rw [m_round0 hw hf hT n _ _ _ q hq]
  have hz : (if ah c L q = -1 then (if nI d = 0 then (g_X11_does W 1 (nI A.length) (nI S.length) T).bind fun v17 => some (-1, v17.1, v17.2.1, nI (sk c L q), H, W, v17.2.2) else g_X11_compile_122 w (g_X11_compile_26 w n) (nI d) (nI 0) (ah c L q) (nI A.length) (nI S.length) (nI (sk c L q)) H W T) else g_X11_compile_122 w (g_X11_compile_26 w n) (nI d) (nI 0) (ah c L q) (nI A.length) (nI S.length) (nI (sk c L q)) H W T) = g_X11_compile_122 w (g_X11_compile_26 w n) (nI d) (nI 0) (ah c L q) (nI A.length) (nI S.length) (nI (sk c L q)) H W T := by
    by_cases e : ah c L q = -1
    · rw [if_pos e, if_neg]
      simp (disch := omega) only [n_z1, n_z2, n_z3, n_z4, n_z5, n_z6, n_z7, n_z8, n_leL, n_leR, n_ltL, n_ltR, n_eqL, n_eqR, n_m1R, n_addL, n_addR, n_mulL, n_mulR, n_subR, n_subL, n_add, n_mul, n_neg, n_sub, n_le, n_lt, n_eq, nI_clamp, if_true, if_false, if_pos, if_neg, or_false, false_or, not_false_eq_true, not_true_eq_false]
      intro e0
      exact h1 e0 e
    · rw [if_neg e]
  rw [hz]
  have hz2 : g_X11_compile_122 w (g_X11_compile_26 w n) (nI d) (nI 0) (ah c L q) (nI A.length) (nI S.length) (nI (sk c L q)) H W T = g_X11_compile_169 w (g_X11_compile_26 w n) (nI d) (ah c L q) (nI A.length) (nI S.length) (nI (sk c L q)) H W T := by
    unfold g_X11_compile_122
    by_cases e : ah c L q = 41
    · rw [if_pos e, if_pos]
      simp (disch := omega) only [n_z1, n_z2, n_z3, n_z4, n_z5, n_z6, n_z7, n_z8, n_leL, n_leR, n_ltL, n_ltR, n_eqL, n_eqR, n_m1R, n_addL, n_addR, n_mulL, n_mulR, n_subR, n_subL, n_add, n_mul, n_neg, n_sub, n_le, n_lt, n_eq, nI_clamp, if_true, if_false, if_pos, if_neg, or_false, false_or, not_false_eq_true, not_true_eq_false]
      by_cases e0 : 0 < d
      · exact absurd e (h2 e0)
      · omega
    · rw [if_neg e]
  rw [hz2]
  have hz3 : g_X11_compile_169 w (g_X11_compile_26 w n) (nI d) (ah c L q) (nI A.length) (nI S.length) (nI (sk c L q)) H W T = some (nI (10 * sk c L q + 1), nI A.length, nI S.length, nI (sk c L q), H, W, T) := by
    have hs : g_X11_compile_223 w (nI A.length) (nI S.length) (nI (sk c L q)) H W T = some (nI (10 * sk c L q + 1), nI A.length, nI S.length, nI (sk c L q), H, W, T) := by
      unfold g_X11_compile_223
      simp (disch := omega) only [n_z1, n_z2, n_z3, n_z4, n_z5, n_z6, n_z7, n_z8, n_leL, n_leR, n_ltL, n_ltR, n_eqL, n_eqR, n_m1R, n_addL, n_addR, n_mulL, n_mulR, n_subR, n_subL, n_add, n_mul, n_neg, n_sub, n_le, n_lt, n_eq, nI_clamp, if_true, if_false, if_pos, if_neg, or_false, false_or, not_false_eq_true, not_true_eq_false]
    have h0 : ∀ t : Nat, t < 10 → ¬ (1 ≤ t ∧ t ≤ 5) ∨ (t = 3 ∧ H d ≠ 0) → g_X11_compile_193 w (g_X11_compile_26 w n) (nI d) (ah c L q) (nI t) (nI A.length) (nI S.length) (nI (sk c L q)) H W T = some (nI (10 * sk c L q + 1), nI A.length, nI S.length, nI (sk c L q), H, W, T) := by
      intro t ht h
      unfold g_X11_compile_193
      rw [p_in, nI_toInt (by omega), pb_some]
      show (if (if (1 : Int) ≤ _ ∧ _ ≤ (5 : Int) then (1 : Int32) else 0) = 0 then _ else _) = _
      by_cases e : 1 ≤ t ∧ t ≤ 5
      · rcases h with h | h
        · exact absurd e h
        · rw [if_pos (show (1 : Int) ≤ (t : Int) ∧ (t : Int) ≤ 5 by omega), if_neg (by decide)]
          simp (disch := omega) only [n_z1, n_z2, n_z3, n_z4, n_z5, n_z6, n_z7, n_z8, n_leL, n_leR, n_ltL, n_ltR, n_eqL, n_eqR, n_m1R, n_addL, n_addR, n_mulL, n_mulR, n_subR, n_subL, n_add, n_mul, n_neg, n_sub, n_le, n_lt, n_eq, nI_clamp, if_true, if_false, if_pos, if_neg, or_false, false_or, not_false_eq_true, not_true_eq_false, h.1]
          rw [if_neg h.2, hs]
      · rw [if_neg (show ¬ ((1 : Int) ≤ (t : Int) ∧ (t : Int) ≤ 5) by omega), if_pos rfl, hs]
    have h00 : g_X11_compile_185 w (g_X11_compile_26 w n) (nI d) (ah c L q) (nI A.length) (nI S.length) (nI (sk c L q)) H W T = _ := h0 0 (by omega) (Or.inl (by omega))
    unfold g_X11_compile_169
    rw [h00, m_holds, pb_some]
    by_cases e1 : ah c L q < 0
    · rw [if_pos e1]
    rw [if_neg e1]
    by_cases e2 : ah c L q = 40
    · rw [if_pos e2]
    rw [if_neg e2]
    by_cases e3 : ah c L q = 41
    · rw [if_pos e3]
    rw [if_neg e3]
    have e4 := rkN_le (ah c L q)
    refine h0 _ (by have := hN_le (ah c L q); omega) ?_
    unfold hN
    rw [if_neg e2]
    by_cases e5 : rkN (ah c L q) ≤ 4
    · rw [if_pos e5]
      rcases hE with h | h
      · omega
      · exact Or.inr ⟨by omega, h.2.1⟩
    · rw [if_neg e5]; omega
  rw [hz3]
  exact ⟨_, _, _, _, _, _, _, rfl, hg _ _⟩
theorem m_end (hw : w 7 = nI L) (hf : ∀ j, j < L → w (115 + j) = c j) (hT : TXT c L) {Φ : Int32 → Int32 → (Nat → Int32) → Prop} {q : Nat} {A S : List Int32} {H : Nat → Int32} (hq : q ≤ L) (hl : S.length + A.length ≤ q)
    (h1 : ah c L q = -1) (hg : ∀ T', Stk T' (fls 1 S A).2 → Φ (-1) (nI (fls 1 S A).2.length) T') : GD w L Φ 0 0 A S q H := by
  intro n W T hn hS hA
  have hL := hT.1
  obtain ⟨n, rfl⟩ : ∃ k, n = k + 1 := ⟨n - 1, by omega⟩
  rw [m_round0 hw hf hT n _ _ _ q hq, if_pos h1, if_pos (by rfl)]
  obtain ⟨T', k1, k2, k3⟩ := m_does (W := W) 1 (by omega) S A T zF (by show _ < 65536; omega) (by omega) hS hA
  have k1' : g_X11_does W 1 (nI A.length) (nI S.length) T = _ := k1
  rw [k1', pb_some]
  exact ⟨_, _, _, _, _, _, _, rfl, hg _ k3⟩
theorem m_close (hw : w 7 = nI L) (hf : ∀ j, j < L → w (115 + j) = c j) (hT : TXT c L) {Φ : Int32 → Int32 → (Nat → Int32) → Prop} {d q : Nat} {A S S' A' : List Int32} {H : Nat → Int32} (hq : q ≤ L) (hl : S.length + A.length ≤ q) (hd : d < 8)
    (h1 : ah c L q = 41) (h2 : fls 1 S A = (40 :: S', A')) (hg : GD w L Φ d 0 (fls 6 S' A').2 (fls 6 S' A').1 (sk c L q + 1) H) : GD w L Φ (d + 1) 0 A S q H := by
  intro n W T hn hS hA
  have hL := hT.1
  obtain ⟨n, rfl⟩ : ∃ k, n = k + 1 := ⟨n - 1, by omega⟩
  have ha := ah_ne hT (q := q) (by rw [h1]; decide)
  have g1 := sk_ge c L _ q (Nat.le_refl _)
  rw [m_round0 hw hf hT n _ _ _ q hq, if_neg (by rw [h1]; decide)]
  unfold g_X11_compile_122
  rw [if_pos h1]
  simp (disch := omega) only [n_z1, n_z2, n_z3, n_z4, n_z5, n_z6, n_z7, n_z8, n_leL, n_leR, n_ltL, n_ltR, n_eqL, n_eqR, n_m1R, n_addL, n_addR, n_mulL, n_mulR, n_subR, n_subL, n_add, n_mul, n_neg, n_sub, n_le, n_lt, n_eq, nI_clamp, if_true, if_false, if_pos, if_neg, or_false, false_or, not_false_eq_true, not_true_eq_false]
  obtain ⟨T', k1, k2, k3⟩ := m_does (W := W) 1 (by omega) S A T zF (by show _ < 65536; omega) (by omega) hS hA
  have hlen := fls_len 1 S A
  rw [h2] at k1 k2 k3 hlen
  have k1' : g_X11_does W 1 (nI A.length) (nI S.length) T = _ := k1
  rw [k1', pb_some]
  dsimp only at hlen ⊢
  rw [List.length_cons] at hlen ⊢
  obtain ⟨T'', m1, m2, m3⟩ := m_does (W := W) 6 (by omega) S' A' T' zF (by show _ < 65536; omega) (by omega) k2.2 k3
  have m1' : g_X11_does W 6 (nI A'.length) (nI S'.length) T' = _ := m1
  simp (disch := omega) only [n_z1, n_z2, n_z3, n_z4, n_z5, n_z6, n_z7, n_z8, n_leL, n_leR, n_ltL, n_ltR, n_eqL, n_eqR, n_m1R, n_addL, n_addR, n_mulL, n_mulR, n_subR, n_subL, n_add, n_mul, n_neg, n_sub, n_le, n_lt, n_eq, nI_clamp, if_true, if_false, if_pos, if_neg, or_false, false_or, not_false_eq_true, not_true_eq_false, Nat.add_sub_cancel, m1', pb_some]
  exact hg n W T'' (by omega) m2 m3
end
