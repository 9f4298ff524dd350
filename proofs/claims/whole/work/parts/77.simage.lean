/-! STEPS: image, from, fault, sign, limb, type -/
theorem rg_ext {w w' : Nat → Int32} {np nt nd ns nr : Nat} (h : RG w np nt nd ns nr) (hw : ∀ j, j < 155 → w' j = w j) : RG w' np nt nd ns nr := by
  obtain ⟨g1, g2, g3, g4, g5, g6, g7, g8, g9⟩ := h
  have b := g1
  refine ⟨g1, ?_, ?_, ?_, ?_, ?_, ?_, ?_, ?_⟩
  · rw [hw 3 (by omega), hw 4 (by omega), hw 5 (by omega), hw 6 (by omega), hw 7 (by omega)]; exact g2
  · rw [hw 0 (by omega), hw 1 (by omega), hw 2 (by omega)]; exact g3
  · rw [hw 8 (by omega), hw 9 (by omega), hw 10 (by omega), hw 11 (by omega), hw 12 (by omega)]; exact g4
  · intro t ht; rw [hw _ (by omega), hw _ (by omega)]; exact g5 t ht
  · intro t ht; rw [hw _ (by omega), hw _ (by omega), hw _ (by omega)]; exact g6 t ht
  · intro t ht; rw [hw _ (by omega), hw _ (by omega), hw _ (by omega)]; exact g7 t ht
  · intro t ht; rw [hw _ (by omega), hw _ (by omega)]; exact g8 t ht
  · intro t ht; rw [hw _ (by omega)]; exact g9 t ht
theorem rc_ext {np nt nd ns nr : Nat} {s0 s1 s2 s3 s4 : Int32} {c0 c1 c2 c3 c4 se sk w c0' c1' c2' c3' c4' se' sk' w' : Nat → Int32} (hb : np ≤ 5 ∧ nt ≤ 16 ∧ nd ≤ 8 ∧ ns ≤ 10 ∧ nr ≤ 40) (h : RC np nt nd ns nr s0 s1 s2 s3 s4 c0 c1 c2 c3 c4 se sk w) (hw : ∀ j, j < 155 → w' j = w j)
    (h0 : ∀ j, j < np * 2 → c0' j = c0 j) (h1 : ∀ j, j < nt * 3 → c1' j = c1 j) (h2 : ∀ j, j < nd * 3 → c2' j = c2 j) (h3 : ∀ j, j < ns * 2 → c3' j = c3 j) (h4 : ∀ j, j < nr * 1 → c4' j = c4 j) (h5 : ∀ j, j < 3 → se' j = se j) (h6 : ∀ j, j < 5 → sk' j = sk j) :
    RC np nt nd ns nr s0 s1 s2 s3 s4 c0' c1' c2' c3' c4' se' sk' w' := by
  obtain ⟨r1, r2, r3, r4, r5, r6, r7, r8⟩ := h
  refine ⟨r1, ?_, ?_, ?_, ?_, ?_, ?_, ?_⟩
  · intro j hj; rw [h5 j hj, hw j (by omega)]; exact r2 j hj
  · intro j hj; rw [h6 j hj, hw _ (by omega)]; exact r3 j hj
  · intro j hj; rw [h0 _ (by omega), h0 _ (by omega), hw _ (by omega), hw _ (by omega)]; exact r4 j hj
  · intro j hj; rw [h1 _ (by omega), h1 _ (by omega), h1 _ (by omega), hw _ (by omega), hw _ (by omega), hw _ (by omega)]; exact r5 j hj
  · intro j hj; rw [h2 _ (by omega), h2 _ (by omega), h2 _ (by omega), hw _ (by omega), hw _ (by omega), hw _ (by omega)]; exact r6 j hj
  · intro j hj; rw [h3 _ (by omega), h3 _ (by omega), hw _ (by omega), hw _ (by omega)]; exact r7 j hj
  · intro j hj; rw [h4 _ (by omega), hw _ (by omega)]; exact r8 j hj
theorem cpy_lt (f g : Nat → Int32) (n j : Nat) (h : j < n) : va_cpy f g 0 0 n j = f j := by
  unfold va_cpy
  rw [if_pos (by omega)]
  congr 1
  omega
theorem x_rcopy {N n w : Nat} (hn : n ≤ 40) (hN : n * w ≤ N) (hw : w ≤ 3) (W9 L9 : Int32) (hW : W9 = nI w) (f : Nat → Int32) (s : Int32) (g : Nat → Int32) : g_X7_copy N N W9 L9 (nI n) W9 L9 f s g = some (nI n, va_cpy f g 0 0 (n * w)) := by
  subst hW
  have hb : n * w ≤ 120 := Nat.mul_le_mul hn hw
  unfold g_X7_copy
  rw [if_pos rfl, if_pos rfl]
  simp (disch := omega) only [n_z1, n_z2, n_z3, n_z4, n_z5, n_z6, n_z7, n_z8, n_leL, n_leR, n_ltL, n_ltR, n_eqL, n_eqR, n_m1R, n_addL, n_addR, n_mulL, n_mulR, n_subR, n_subL, n_add, n_mul, n_neg, n_sub, n_le, n_lt, n_eq, nI_clamp, if_true, if_false, if_pos, if_neg, or_false, false_or, not_false_eq_true, not_true_eq_false]
/-- a state is copied into another -/
theorem x_scopy {np nt nd ns nr : Nat} {s0 s1 s2 s3 s4 : Int32} {c0 c1 c2 c3 c4 se sk w : Nat → Int32} (hG : RG w np nt nd ns nr) (hC : RC np nt nd ns nr s0 s1 s2 s3 s4 c0 c1 c2 c3 c4 se sk w) (t0 t1 t2 t3 t4 : Int32) (d0 d1 d2 d3 d4 de dk : Nat → Int32) {w' : Nat → Int32} (hw : ∀ j, j < 155 → w' j = w j) :
    ∃ d0' d1' d2' d3' d4' de' dk', g_X9_copy 10 10 48 48 24 24 20 20 40 40 2 5 2 5 s0 c0 3 16 3 16 s1 c1 3 8 3 8 s2 c2 2 10 2 10 s3 c3 1 40 1 40 s4 c4 se sk t0 d0 t1 d1 t2 d2 t3 d3 t4 d4 de dk = some (s0, d0', s1, d1', s2, d2', s3, d3', s4, d4', de', dk') ∧ RS s0 s1 s2 s3 s4 d0' d1' d2' d3' d4' de' dk' w' := by
  have hb := hG.1
  obtain ⟨r1, _⟩ := id hC
  refine ⟨va_cpy c0 d0 0 0 (np * 2), va_cpy c1 d1 0 0 (nt * 3), va_cpy c2 d2 0 0 (nd * 3), va_cpy c3 d3 0 0 (ns * 2), va_cpy c4 d4 0 0 (nr * 1), va_cpy se de 0 0 3, va_cpy sk dk 0 0 5, ?_, np, nt, nd, ns, nr, rg_ext hG hw, ?_⟩
  · unfold g_X9_copy
    rw [r1.1, r1.2.1, r1.2.2.1, r1.2.2.2.1, r1.2.2.2.2]
    rw [x_rcopy (w := 2) (by omega) (by omega) (by omega) 2 5 rfl, pb_some, x_rcopy (w := 3) (by omega) (by omega) (by omega) 3 16 rfl, pb_some, x_rcopy (w := 3) (by omega) (by omega) (by omega) 3 8 rfl, pb_some, x_rcopy (w := 2) (by omega) (by omega) (by omega) 2 10 rfl, pb_some, x_rcopy (w := 1) (by omega) (by omega) (by omega) 1 40 rfl, pb_some, if_neg (by decide), if_neg (by decide)]
    rfl
  · exact rc_ext hb hC hw (fun j hj => cpy_lt _ _ _ _ hj) (fun j hj => cpy_lt _ _ _ _ hj) (fun j hj => cpy_lt _ _ _ _ hj) (fun j hj => cpy_lt _ _ _ _ hj) (fun j hj => cpy_lt _ _ _ _ hj) (fun j hj => cpy_lt _ _ _ _ hj) (fun j hj => cpy_lt _ _ _ _ hj)
theorem m_image (w K R : Nat → Int32) (i : Nat) (hi : i < 2) : ∀ (k n j : Nat) (M : Nat → Int32), 155 - j = k → k < n → j ≤ 155 → (∀ a, a < j → M (155 * i + a) = w a) →
    ∃ M', g_X11_image_19 w (nI i) n (nI j) K M R = some (1, upd K i 1, M', R) ∧ (∀ a, a < 155 → M' (155 * i + a) = w a) ∧ (∀ b, (b < 155 * i ∨ 155 * i + 155 ≤ b) → M' b = M b)
  | _, 0, _, _, _, h, _, _ => absurd h (Nat.not_lt_zero _)
  | k, n + 1, j, M, h1, h2, h3, h4 => by
    rw [g_X11_image_19]
    unfold g_X11_image_19b
    by_cases e : 155 ≤ j
    · simp (disch := omega) only [n_z1, n_z2, n_z3, n_z4, n_z5, n_z6, n_z7, n_z8, n_leL, n_leR, n_ltL, n_ltR, n_eqL, n_eqR, n_m1R, n_addL, n_addR, n_mulL, n_mulR, n_subR, n_subL, n_add, n_mul, n_neg, n_sub, n_le, n_lt, n_eq, nI_clamp, if_true, if_false, if_pos, if_neg, or_false, false_or, not_false_eq_true, not_true_eq_false]
      exact ⟨M, rfl, fun a ha => h4 a (by omega), fun b _ => rfl⟩
    · simp (disch := omega) only [n_z1, n_z2, n_z3, n_z4, n_z5, n_z6, n_z7, n_z8, n_leL, n_leR, n_ltL, n_ltR, n_eqL, n_eqR, n_m1R, n_addL, n_addR, n_mulL, n_mulR, n_subR, n_subL, n_add, n_mul, n_neg, n_sub, n_le, n_lt, n_eq, nI_clamp, if_true, if_false, if_pos, if_neg, or_false, false_or, not_false_eq_true, not_true_eq_false]
      obtain ⟨M', a1, a2, a3⟩ := m_image w K R i hi (k - 1) n (j + 1) (upd M (155 * i + j) (w j)) (by omega) (by omega) (by omega) (fun a ha => by
        rw [upd_eq]
        by_cases e2 : 155 * i + a = 155 * i + j
        · rw [if_pos e2]; congr 1; omega
        · rw [if_neg e2]; exact h4 a (by omega))
      exact ⟨M', a1, a2, fun b hb => by rw [a3 b hb, upd_eq, if_neg (by omega)]⟩
theorem m_from (K M R : Nat → Int32) (i : Nat) (hi : i < 2) : ∀ (k n j : Nat) (w : Nat → Int32), 155 - j = k → k < n → j ≤ 155 → (∀ a, a < j → w a = M (155 * i + a)) →
    ∃ w', g_X11_from_35 K M (nI i) n (nI j) w R = some (1, w', R) ∧ (∀ a, a < 155 → w' a = M (155 * i + a))
  | _, 0, _, _, _, h, _, _ => absurd h (Nat.not_lt_zero _)
  | k, n + 1, j, w, h1, h2, h3, h4 => by
    rw [g_X11_from_35]
    unfold g_X11_from_35b
    by_cases e : 155 ≤ j
    · simp (disch := omega) only [n_z1, n_z2, n_z3, n_z4, n_z5, n_z6, n_z7, n_z8, n_leL, n_leR, n_ltL, n_ltR, n_eqL, n_eqR, n_m1R, n_addL, n_addR, n_mulL, n_mulR, n_subR, n_subL, n_add, n_mul, n_neg, n_sub, n_le, n_lt, n_eq, nI_clamp, if_true, if_false, if_pos, if_neg, or_false, false_or, not_false_eq_true, not_true_eq_false]
      exact ⟨w, rfl, fun a ha => h4 a (by omega)⟩
    · simp (disch := omega) only [n_z1, n_z2, n_z3, n_z4, n_z5, n_z6, n_z7, n_z8, n_leL, n_leR, n_ltL, n_ltR, n_eqL, n_eqR, n_m1R, n_addL, n_addR, n_mulL, n_mulR, n_subR, n_subL, n_add, n_mul, n_neg, n_sub, n_le, n_lt, n_eq, nI_clamp, if_true, if_false, if_pos, if_neg, or_false, false_or, not_false_eq_true, not_true_eq_false]
      obtain ⟨w', a1, a2⟩ := m_from K M R i hi (k - 1) n (j + 1) (upd w j (M (155 * i + j))) (by omega) (by omega) (by omega) (fun a ha => by
        rw [upd_eq]
        by_cases e2 : a = j
        · rw [if_pos e2, e2]
        · rw [if_neg e2]; exact h4 a (by omega))
      exact ⟨w', a1, a2⟩
theorem zp_image : zstep_image Inv := by
  intro I Aa J V h a1
  obtain ⟨hS, hT, hR, hI, hF, hc, hp⟩ := h
  have hS' := hS
  obtain ⟨np, nt, nd, ns, nr, hG, hC⟩ := hS
  unfold g_X10_image g_X11_image
  rw [p_inN a1 0 1 0 1 rfl rfl, p_isInZ a1 0 1 0 1 rfl rfl, hr2, hm2]
  simp only [pb_some, ite10]
  by_cases e1 : 0 ≤ a1.toInt ∧ a1.toInt ≤ 1
  · rw [if_neg (not_not_intro e1), if_neg (not_not_intro e1)]
    obtain ⟨k, hk, rfl⟩ := i32c e1.1 (n := 1) e1.2
    obtain ⟨M', m1, m2, m3⟩ := m_image (Aa 45) (Aa 47) (Aa 51) k (by omega) 155 zF 0 (Aa 46) rfl (by decide) (by omega) (fun a h => by omega)
    have m1' : g_X11_image_19 (Aa 45) (nI k) zF 0 (Aa 47) (Aa 46) (Aa 51) = _ := m1
    rw [m1']
    rcases (show k = 0 ∨ k = 1 by omega) with rfl | rfl
    · obtain ⟨d0, d1, d2, d3, d4, de, dk, x1, x2⟩ := x_scopy hG hC (I 28) (I 29) (I 30) (I 31) (I 32) (Aa 29) (Aa 30) (Aa 31) (Aa 32) (Aa 33) (Aa 34) (Aa 35) (w' := fun k => M' k) (fun j hj => (congrArg M' (by omega)).trans (m2 j hj))
      rw [show g_X10_imageOf (nI 0) = some 1 from rfl, pb_some, if_neg (by decide), if_pos rfl, x1, pb_some]
      simp (disch := omega) only [n_z1, n_z2, n_z3, n_z4, n_z5, n_z6, n_z7, n_z8, n_leL, n_leR, n_ltL, n_ltR, n_eqL, n_eqR, n_m1R, n_addL, n_addR, n_mulL, n_mulR, n_subR, n_subL, n_add, n_mul, n_neg, n_sub, n_le, n_lt, n_eq, nI_clamp, if_true, if_false, if_pos, if_neg, or_false, false_or, not_false_eq_true, not_true_eq_false]
      refine ⟨_, _, rfl, rfl, rfl, hS', hT, hR, ⟨?_, ?_⟩, hF, hc, hp⟩
      · exact ⟨rfl, fun _ => x2⟩
      · refine ⟨hI.2.1, fun h => ?_⟩
        obtain ⟨np, nt, nd, ns, nr, hG, hC⟩ := hI.2.2 h
        have q : ∀ j, j < 155 → M' (155 + j) = Aa 46 (155 + j) := fun j hj => m3 _ (by omega)
        exact ⟨np, nt, nd, ns, nr, rg_ext hG q, rc_ext hG.1 hC q (fun _ _ => rfl) (fun _ _ => rfl) (fun _ _ => rfl) (fun _ _ => rfl) (fun _ _ => rfl) (fun _ _ => rfl) (fun _ _ => rfl)⟩
    · obtain ⟨d0, d1, d2, d3, d4, de, dk, x1, x2⟩ := x_scopy hG hC (I 33) (I 34) (I 35) (I 36) (I 37) (Aa 36) (Aa 37) (Aa 38) (Aa 39) (Aa 40) (Aa 41) (Aa 42) (w' := fun k => M' (155 + k)) (fun j hj => m2 j hj)
      rw [show g_X10_imageOf (nI 1) = some 0 from rfl, pb_some, if_pos rfl, x1, pb_some]
      simp (disch := omega) only [n_z1, n_z2, n_z3, n_z4, n_z5, n_z6, n_z7, n_z8, n_leL, n_leR, n_ltL, n_ltR, n_eqL, n_eqR, n_m1R, n_addL, n_addR, n_mulL, n_mulR, n_subR, n_subL, n_add, n_mul, n_neg, n_sub, n_le, n_lt, n_eq, nI_clamp, if_true, if_false, if_pos, if_neg, or_false, false_or, not_false_eq_true, not_true_eq_false]
      refine ⟨_, _, rfl, rfl, rfl, hS', hT, hR, ⟨?_, ?_⟩, hF, hc, hp⟩
      · refine ⟨hI.1.1, fun h => ?_⟩
        obtain ⟨np, nt, nd, ns, nr, hG, hC⟩ := hI.1.2 h
        have q : ∀ j, j < 155 → M' j = Aa 46 j := fun j hj => m3 _ (by omega)
        exact ⟨np, nt, nd, ns, nr, rg_ext hG q, rc_ext hG.1 hC q (fun _ _ => rfl) (fun _ _ => rfl) (fun _ _ => rfl) (fun _ _ => rfl) (fun _ _ => rfl) (fun _ _ => rfl) (fun _ _ => rfl)⟩
      · exact ⟨rfl, fun _ => x2⟩
  · rw [if_pos e1, if_pos e1]
    exact ⟨_, _, rfl, rfl, rfl, hS', hT, iR_0 hR, hI, hF, hc, hp⟩
theorem zp_from : zstep_from Inv := by
  intro I Aa J V h a1
  obtain ⟨hS, hT, hR, hI, hF, hc, hp⟩ := h
  unfold g_X10_from g_X11_from
  rw [p_inN a1 0 1 0 1 rfl rfl, p_isInZ a1 0 1 0 1 rfl rfl, hr2, hm2, hr3, hm3]
  simp only [pb_some, ite10]
  by_cases e1 : 0 ≤ a1.toInt ∧ a1.toInt ≤ 1
  · rw [if_neg (not_not_intro e1), if_neg (not_not_intro e1)]
    obtain ⟨k, hk, rfl⟩ := i32c e1.1 (n := 1) e1.2
    obtain ⟨w', m1, m2⟩ := m_from (Aa 47) (Aa 46) (Aa 51) k (by omega) 155 zF 0 (Aa 45) rfl (by decide) (by omega) (fun a h => by omega)
    have m1' : g_X11_from_35 (Aa 47) (Aa 46) (nI k) zF 0 (Aa 45) (Aa 51) = _ := m1
    rw [m1']
    simp (disch := omega) only [n_z1, n_z2, n_z3, n_z4, n_z5, n_z6, n_z7, n_z8, n_leL, n_leR, n_ltL, n_ltR, n_eqL, n_eqR, n_m1R, n_addL, n_addR, n_mulL, n_mulR, n_subR, n_subL, n_add, n_mul, n_neg, n_sub, n_le, n_lt, n_eq, nI_clamp, if_true, if_false, if_pos, if_neg, or_false, false_or, not_false_eq_true, not_true_eq_false]
    rcases (show k = 0 ∨ k = 1 by omega) with rfl | rfl
    · rw [← hI.1.1]
      by_cases e : Aa 43 0 = 0
      · rw [if_pos e, if_pos e]
        exact ⟨_, _, rfl, rfl, rfl, hS, hT, iR_1 hR, hI, hF, hc, hp⟩
      · obtain ⟨np, nt, nd, ns, nr, hG, hC⟩ := hI.1.2 e
        obtain ⟨d0, d1, d2, d3, d4, de, dk, x1, x2⟩ := x_scopy hG hC (I 0) (I 1) (I 2) (I 3) (I 4) (Aa 0) (Aa 1) (Aa 2) (Aa 3) (Aa 4) (Aa 5) (Aa 6) (w' := w') (fun j hj => (m2 j hj).trans (congrArg (Aa 46) (by omega)))
        rw [if_neg e, if_neg e]
        rw [show g_X10_imageOf (nI 0) = some 1 from rfl, pb_some, if_neg (by decide), if_pos rfl, x1, pb_some, p_changed, pb_some]
        exact ⟨_, _, rfl, rfl, rfl, x2, hT, hR, hI, hF, ic_chg .., cp_chg _ _ _ _⟩
    · rw [← hI.2.1]
      by_cases e : Aa 43 1 = 0
      · rw [if_pos e, if_pos e]
        exact ⟨_, _, rfl, rfl, rfl, hS, hT, iR_1 hR, hI, hF, hc, hp⟩
      · obtain ⟨np, nt, nd, ns, nr, hG, hC⟩ := hI.2.2 e
        obtain ⟨d0, d1, d2, d3, d4, de, dk, x1, x2⟩ := x_scopy hG hC (I 0) (I 1) (I 2) (I 3) (I 4) (Aa 0) (Aa 1) (Aa 2) (Aa 3) (Aa 4) (Aa 5) (Aa 6) (w' := w') (fun j hj => (m2 j hj))
        rw [if_neg e, if_neg e]
        rw [show g_X10_imageOf (nI 1) = some 0 from rfl, pb_some, if_pos rfl, x1, pb_some, p_changed, pb_some]
        exact ⟨_, _, rfl, rfl, rfl, x2, hT, hR, hI, hF, ic_chg .., cp_chg _ _ _ _⟩
  · rw [if_pos e1, if_pos e1]
    exact ⟨_, _, rfl, rfl, rfl, hS, hT, iR_0 hR, hI, hF, hc, hp⟩
theorem zp_fault : zstep_fault Inv := by
  intro I Aa J V h _
  obtain ⟨hS, hT, hR, hI, hF, ⟨hr, hd, hg⟩, hp⟩ := h
  have hS' := hS
  obtain ⟨np, nt, nd, ns, nr, hG, hC⟩ := hS
  have hn := rg_np hG
  have hx := rg_tx hG
  unfold g_X10_fault g_X11_fault
  have key : ∀ (size pl fault : Int32) (row : Nat → Int32) (tv : TVT), RT (fun j => Aa 45 (115 + j)) nr (Aa 45 2) (Aa 45 0) size fault row tv → ∃ a b p H W T, g_X11_compile (Aa 45) (I 45) (I 46) (I 47) (Aa 55) (Aa 54) (Aa 53) = some (fault, a, b, p, H, W, T) := by
    intro size pl fault row tv h
    obtain ⟨a, b, p, H, W, T, h1, _⟩ := m_rule hG.2.1.2.2.2.2 (fun _ _ => rfl) hx h (I 45) (I 46) (I 47) (Aa 55) (Aa 54) (Aa 53)
    exact ⟨a, b, p, H, W, T, h1⟩
  by_cases e : I 18 = 0
  · obtain ⟨tv, h1⟩ := id (hr e)
    rw [hn.2.2.2.2] at h1
    obtain ⟨a, b, p, H, W, T, h2⟩ := key (I 15) (I 16) (I 17) (Aa 16) tv h1
    rw [h2, pb_some]
    have h3 : g_X8_refresh 40 1 (I 4) (Aa 4) (I 15) (I 16) (I 17) (I 18) (Aa 16) = some (I 15, I 16, I 17, I 18, Aa 16) := by
      unfold g_X8_refresh
      rw [if_pos e]
    rw [h3, pb_some]
    exact ⟨_, _, rfl, rfl, rfl, hS', hT, hR, hI, hF, ⟨hr, hd, hg⟩, hp⟩
  · have hs := hC.1.2.2.2.2
    obtain ⟨size', pl', fault', row', h1, h2⟩ := x_refresh (f := Aa 4) (c := fun j => Aa 45 (115 + j)) (L := nr) hC.2.2.2.2.2.2.2 hx (I 15) (I 16) (I 17) (I 18) (Aa 16) e
    obtain ⟨tv, h3⟩ := rt_of hx h2 (Aa 45 2) (Aa 45 0)
    obtain ⟨a, b, p, H, W, T, h4⟩ := key size' pl' fault' row' tv h3
    have h3' : RT (fun j => Aa 45 (115 + j)) (tn (Aa 45 7)) (Aa 45 2) (Aa 45 0) size' fault' row' tv := by rw [hn.2.2.2.2]; exact h3
    rw [h4, pb_some, hs, h1, pb_some]
    refine ⟨_, _, rfl, rfl, rfl, hS', hT, hR, hI, hF, ⟨?_, ?_, ?_⟩, hp⟩
    · exact fun _ => ⟨tv, h3'⟩
    · exact fun h => absurd (hd h).1 e
    · exact fun h => absurd (hg h).1.1 e
theorem sz_size {f : Nat → Int32} {n : Nat} (h : SZ f n) : ∀ (k m : Nat), m - n = k → n ≤ m → m ≤ 8 → ∀ z, k < z → g_X0_size_3 f z (nI m) = some (nI n)
  | k, m, h1, h2, h3, 0, h4 => absurd h4 (Nat.not_lt_zero _)
  | k, m, h1, h2, h3, z + 1, h4 => by
    rw [g_X0_size_3]
    unfold g_X0_size_3b
    by_cases e : m = 0
    · subst e
      have : n = 0 := by omega
      subst this
      rw [if_pos (by decide)]
      rfl
    · simp (disch := omega) only [n_z1, n_z2, n_z3, n_z4, n_z5, n_z6, n_z7, n_z8, n_leL, n_leR, n_ltL, n_ltR, n_eqL, n_eqR, n_m1R, n_addL, n_addR, n_mulL, n_mulR, n_subR, n_subL, n_add, n_mul, n_neg, n_sub, n_le, n_lt, n_eq, nI_clamp, if_true, if_false, if_pos, if_neg, or_false, false_or, not_false_eq_true, not_true_eq_false]
      by_cases e2 : m = n
      · subst e2
        rw [if_neg (h.2.2 (by omega))]
      · rw [if_pos (h.2.1 (m - 1) (by omega) (by omega))]
        exact sz_size h (k - 1) (m - 1) (by omega) (by omega) (by omega) z (by omega)
theorem x_size {f : Nat → Int32} {n : Nat} (h : SZ f n) : g_X0_size f = some (nI n) := sz_size h (8 - n) 8 rfl h.1 (by omega) zF (by have := h.1; show _ < 65536; omega)
theorem zp_sign : zstep_sign Inv := by
  intro I Aa J V h a1
  obtain ⟨hS, hT, hR, hI, hF, hc, hp⟩ := h
  obtain ⟨na, nb, f1, f2, f3, f4, f5, f6, f7⟩ := id hF
  have b1 := f1.1
  have b2 := f2.1
  unfold g_X10_sign g_X11_sign
  rw [p_isInZ a1 0 2 0 2 rfl rfl, hr2, hm2]
  simp only [pb_some, ite10]
  by_cases e1 : 0 ≤ a1.toInt ∧ a1.toInt ≤ 2
  · rw [if_neg (not_not_intro e1)]
    obtain ⟨k, hk, rfl⟩ := i32c e1.1 (n := 2) e1.2
    unfold g_X2_shape
    rw [x_size f1, x_size f2]
    simp only [pb_some]
    rcases (show k = 0 ∨ k = 1 ∨ k = 2 by omega) with rfl | rfl | rfl
    · rw [if_pos (show nI 0 = 0 from rfl), if_pos (show nI 0 = 0 from rfl)]
      by_cases e : na = 0
      · subst e
        rw [if_pos (by decide), pb_some]
        exact ⟨_, _, rfl, rfl, f5.symm, hS, hT, hR, hI, hF, hc, hp⟩
      · rw [if_neg (show ¬ nI na ≤ 0 by simp (disch := omega) only [n_z1, n_z2, n_z3, n_z4, n_z5, n_z6, n_z7, n_z8, n_leL, n_leR, n_ltL, n_ltR, n_eqL, n_eqR, n_m1R, n_addL, n_addR, n_mulL, n_mulR, n_subR, n_subL, n_add, n_mul, n_neg, n_sub, n_le, n_lt, n_eq, nI_clamp, if_true, if_false, if_pos, if_neg, or_false, false_or, not_false_eq_true, not_true_eq_false]; omega), pb_some]
        exact ⟨_, _, rfl, rfl, by rw [f5, if_neg e], hS, hT, hR, hI, hF, hc, hp⟩
    · rw [if_neg (show ¬ nI 1 = 0 by decide), if_neg (show ¬ nI 1 = 0 by decide), if_pos (show nI 1 = 1 from rfl), if_pos (show nI 1 = 1 from rfl), pb_some]
      exact ⟨_, _, rfl, rfl, f3.symm, hS, hT, hR, hI, hF, hc, hp⟩
    · rw [if_neg (show ¬ nI 2 = 0 by decide), if_neg (show ¬ nI 2 = 0 by decide), if_neg (show ¬ nI 2 = 1 by decide), if_neg (show ¬ nI 2 = 1 by decide), if_pos (show nI 2 = 2 from rfl), pb_some]
      exact ⟨_, _, rfl, rfl, f4.symm, hS, hT, hR, hI, hF, hc, hp⟩
  · have n0 : ¬ a1 = 0 := fun h => e1 (by rw [h]; decide)
    have n1 : ¬ a1 = 1 := fun h => e1 (by rw [h]; decide)
    have n2 : ¬ a1 = 2 := fun h => e1 (by rw [h]; decide)
    rw [if_pos e1, if_neg n0, if_neg n1, if_neg n2]
    exact ⟨_, _, rfl, rfl, rfl, hS, hT, iR_0 hR, hI, hF, hc, hp⟩
theorem x_limbAt {f : Nat → Int32} {n : Nat} (h : SZ f n) {x : Int32} (hx : 0 ≤ x.toInt) : g_X0_limbAt f x = some (if tn x < n then f (tn x) else -1) := by
  have b := h.1
  have hb : tn x < 2 ^ 31 := (n_to hx).2
  have hh := tn_nI hx
  unfold g_X0_limbAt
  rw [x_size h]
  rw [hh, tn_of hb]
  rw [if_neg (by rw [n_z1 hb]; exact id), pb_some]
  by_cases e : tn x < n
  · rw [if_pos e, if_neg (by simp (disch := omega) only [n_z1, n_z2, n_z3, n_z4, n_z5, n_z6, n_z7, n_z8, n_leL, n_leR, n_ltL, n_ltR, n_eqL, n_eqR, n_m1R, n_addL, n_addR, n_mulL, n_mulR, n_subR, n_subL, n_add, n_mul, n_neg, n_sub, n_le, n_lt, n_eq, nI_clamp, if_true, if_false, if_pos, if_neg, or_false, false_or, not_false_eq_true, not_true_eq_false]; omega), if_neg (by simp (disch := omega) only [n_z1, n_z2, n_z3, n_z4, n_z5, n_z6, n_z7, n_z8, n_leL, n_leR, n_ltL, n_ltR, n_eqL, n_eqR, n_m1R, n_addL, n_addR, n_mulL, n_mulR, n_subR, n_subL, n_add, n_mul, n_neg, n_sub, n_le, n_lt, n_eq, nI_clamp, if_true, if_false, if_pos, if_neg, or_false, false_or, not_false_eq_true, not_true_eq_false]; omega), nI_clamp (by omega)]
  · rw [if_neg e, if_pos (by simp (disch := omega) only [n_z1, n_z2, n_z3, n_z4, n_z5, n_z6, n_z7, n_z8, n_leL, n_leR, n_ltL, n_ltR, n_eqL, n_eqR, n_m1R, n_addL, n_addR, n_mulL, n_mulR, n_subR, n_subL, n_add, n_mul, n_neg, n_sub, n_le, n_lt, n_eq, nI_clamp, if_true, if_false, if_pos, if_neg, or_false, false_or, not_false_eq_true, not_true_eq_false]; omega)]
theorem zp_limb : zstep_limb Inv := by
  intro I Aa J V h a1 a2
  obtain ⟨hS, hT, hR, hI, hF, hc, hp⟩ := h
  obtain ⟨na, nb, f1, f2, f3, f4, f5, f6, f7⟩ := id hF
  have b1 := f1.1
  have b2 := f2.1
  have l0 : (0 ≤ a2) ↔ 0 ≤ a2.toInt := Int32.le_iff_toInt_le
  unfold g_X10_limb g_X11_limb g_X10_limb_13 g_X11_limb_14
  rw [p_inN a1 0 1 0 1 rfl rfl, p_isInZ a1 0 1 0 1 rfl rfl, hr2, hm2]
  simp only [pb_some, ite10, l0]
  by_cases e1 : 0 ≤ a1.toInt ∧ a1.toInt ≤ 1
  · rw [if_neg (not_not_intro e1), if_neg (not_not_intro e1)]
    by_cases e2 : 0 ≤ a2.toInt
    · rw [if_pos e2, if_pos e2]
      obtain ⟨k, hk, rfl⟩ := i32c e1.1 (n := 1) e1.2
      have hb : tn a2 < 2 ^ 31 := (n_to e2).2
      have hh := tn_nI e2
      unfold g_X2_limbOf g_X11_limb_37
      rw [x_limbAt f1 e2, x_limbAt f2 e2]
      simp only [pb_some]
      rw [f3, f4]
      rcases (show k = 0 ∨ k = 1 by omega) with rfl | rfl
      · rw [if_pos (show nI 0 = 0 from rfl), if_pos (show nI 0 = 0 from rfl), pb_some]
        by_cases e : tn a2 < na
        · rw [if_pos (show a2 < nI na by rw [hh]; simp (disch := omega) only [n_z1, n_z2, n_z3, n_z4, n_z5, n_z6, n_z7, n_z8, n_leL, n_leR, n_ltL, n_ltR, n_eqL, n_eqR, n_m1R, n_addL, n_addR, n_mulL, n_mulR, n_subR, n_subL, n_add, n_mul, n_neg, n_sub, n_le, n_lt, n_eq, nI_clamp, if_true, if_false, if_pos, if_neg, or_false, false_or, not_false_eq_true, not_true_eq_false]; exact e), if_pos (show nI 0 = 0 from rfl), if_neg (show ¬ (a2 < 0 ∨ 8 ≤ a2.toNatClampNeg) by rw [hh]; simp (disch := omega) only [n_z1, n_z2, n_z3, n_z4, n_z5, n_z6, n_z7, n_z8, n_leL, n_leR, n_ltL, n_ltR, n_eqL, n_eqR, n_m1R, n_addL, n_addR, n_mulL, n_mulR, n_subR, n_subL, n_add, n_mul, n_neg, n_sub, n_le, n_lt, n_eq, nI_clamp, if_true, if_false, if_pos, if_neg, or_false, false_or, not_false_eq_true, not_true_eq_false]; omega)]
          refine ⟨_, _, rfl, rfl, ?_, hS, hT, hR, hI, hF, hc, hp⟩
          show (if tn a2 < na then _ else _) = Aa 49 (a2.toNatClampNeg)
          rw [if_pos e]
          rw [show a2.toNatClampNeg = tn a2 by rw [hh, nI_clamp hb, tn_of hb]]
          exact (f6 _ e).symm
        · rw [if_neg (show ¬ a2 < nI na by rw [hh]; simp (disch := omega) only [n_z1, n_z2, n_z3, n_z4, n_z5, n_z6, n_z7, n_z8, n_leL, n_leR, n_ltL, n_ltR, n_eqL, n_eqR, n_m1R, n_addL, n_addR, n_mulL, n_mulR, n_subR, n_subL, n_add, n_mul, n_neg, n_sub, n_le, n_lt, n_eq, nI_clamp, if_true, if_false, if_pos, if_neg, or_false, false_or, not_false_eq_true, not_true_eq_false]; exact e)]
          refine ⟨_, _, rfl, rfl, ?_, hS, hT, hR, hI, hF, hc, hp⟩
          show (if tn a2 < na then _ else _) = _
          rw [if_neg e]
      · rw [if_neg (show ¬ nI 1 = 0 by decide), if_neg (show ¬ nI 1 = 0 by decide), pb_some]
        by_cases e : tn a2 < nb
        · rw [if_pos (show a2 < nI nb by rw [hh]; simp (disch := omega) only [n_z1, n_z2, n_z3, n_z4, n_z5, n_z6, n_z7, n_z8, n_leL, n_leR, n_ltL, n_ltR, n_eqL, n_eqR, n_m1R, n_addL, n_addR, n_mulL, n_mulR, n_subR, n_subL, n_add, n_mul, n_neg, n_sub, n_le, n_lt, n_eq, nI_clamp, if_true, if_false, if_pos, if_neg, or_false, false_or, not_false_eq_true, not_true_eq_false]; exact e), if_neg (show ¬ nI 1 = 0 by decide), if_neg (show ¬ (a2 < 0 ∨ 8 ≤ a2.toNatClampNeg) by rw [hh]; simp (disch := omega) only [n_z1, n_z2, n_z3, n_z4, n_z5, n_z6, n_z7, n_z8, n_leL, n_leR, n_ltL, n_ltR, n_eqL, n_eqR, n_m1R, n_addL, n_addR, n_mulL, n_mulR, n_subR, n_subL, n_add, n_mul, n_neg, n_sub, n_le, n_lt, n_eq, nI_clamp, if_true, if_false, if_pos, if_neg, or_false, false_or, not_false_eq_true, not_true_eq_false]; omega)]
          refine ⟨_, _, rfl, rfl, ?_, hS, hT, hR, hI, hF, hc, hp⟩
          show (if tn a2 < nb then _ else _) = Aa 50 (a2.toNatClampNeg)
          rw [if_pos e]
          rw [show a2.toNatClampNeg = tn a2 by rw [hh, nI_clamp hb, tn_of hb]]
          exact (f7 _ e).symm
        · rw [if_neg (show ¬ a2 < nI nb by rw [hh]; simp (disch := omega) only [n_z1, n_z2, n_z3, n_z4, n_z5, n_z6, n_z7, n_z8, n_leL, n_leR, n_ltL, n_ltR, n_eqL, n_eqR, n_m1R, n_addL, n_addR, n_mulL, n_mulR, n_subR, n_subL, n_add, n_mul, n_neg, n_sub, n_le, n_lt, n_eq, nI_clamp, if_true, if_false, if_pos, if_neg, or_false, false_or, not_false_eq_true, not_true_eq_false]; exact e)]
          refine ⟨_, _, rfl, rfl, ?_, hS, hT, hR, hI, hF, hc, hp⟩
          show (if tn a2 < nb then _ else _) = _
          rw [if_neg e]
    · rw [if_neg e2, if_neg e2]
      exact ⟨_, _, rfl, rfl, rfl, hS, hT, iR_0 hR, hI, hF, hc, hp⟩
  · rw [if_pos e1, if_pos e1]
    exact ⟨_, _, rfl, rfl, rfl, hS, hT, iR_0 hR, hI, hF, hc, hp⟩
