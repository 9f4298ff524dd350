/-! STEPS: who -/
section
variable {w c0 c3 SE row T : Nat → Int32} {tv : TVT} {np nt ns L : Nat} {size fault : Int32} {c : Nat → Int32}
theorem gq_eq (w : Nat → Int32) (tv : TVT) (np nt ns s : Nat) : gq w tv np nt ns s = (gAll w np s && gSee w tv np nt ns s) := rfl
theorem x_55 (hL : L ≤ 40) (hnp : np ≤ 5) (hP : PG w np) (hc : ∀ p, p < np → c0 (2 * p) = w (13 + p) ∧ c0 (2 * p + 1) = w (18 + p)) (hse : ∀ j, j < 3 → SE j = w j) (hR : RT c L (w 2) (w 0) size fault row tv) (hT : TKX w nt T) (hg : SG w ns) (f : Nat → Int32) (hf : SN w ns f) (la : Nat) (hla : la ≤ 240) (hl2 : ∀ k, k < ns → (w (95 + k)).toInt ≤ la) :
    ∀ (j z s : Nat) (kn : Nat → Int32) (st : Nat → Int64), am w np + 1 - s = j → j < z → s ≤ am w np + 1 →
    ∃ kn' st', g_X3_refresh_55 20 10 2 (nI ns) c3 2 (nI np) c0 T SE size fault row z (nI la) (nI (am w np)) (nI s) (nI (gmany (gq w tv np nt ns) s)) (gleast (gq w tv np nt ns) s) (gsure (gq w tv np nt ns) s) 0 f kn st = some (nI (gmany (gq w tv np nt ns) (am w np + 1)), gleast (gq w tv np nt ns) (am w np + 1), gsure (gq w tv np nt ns) (am w np + 1), 0, f, kn', st')
  | _, 0, _, _, _, _, h, _ => absurd h (Nat.not_lt_zero _)
  | j, z + 1, s, kn, st, h1, h2, h3 => by
    have hl := am_lt w np
    have h32 : 2 ^ np ≤ 2 ^ 5 := Nat.pow_le_pow_right (by omega) hnp
    rw [g_X3_refresh_55]
    unfold g_X3_refresh_55b
    by_cases e : am w np < s
    · rw [if_pos (show nI (am w np) < nI s by simp (disch := omega) only [n_z1, n_z2, n_z3, n_z4, n_z5, n_z6, n_z7, n_z8, n_leL, n_leR, n_ltL, n_ltR, n_eqL, n_eqR, n_m1R, n_addL, n_addR, n_mulL, n_mulR, n_subR, n_subL, n_add, n_mul, n_neg, n_sub, n_le, n_lt, n_eq, nI_clamp, if_true, if_false, if_pos, if_neg, or_false, false_or, not_false_eq_true, not_true_eq_false]; omega)]
      rw [show s = am w np + 1 by omega]
      exact ⟨kn, st, rfl⟩
    · have hs : s < 32 := by omega
      have g0 := gm_0 (gq w tv np nt ns) s (by omega)
      rw [if_neg (show ¬ nI (am w np) < nI s by simp (disch := omega) only [n_z1, n_z2, n_z3, n_z4, n_z5, n_z6, n_z7, n_z8, n_leL, n_leR, n_ltL, n_ltR, n_eqL, n_eqR, n_m1R, n_addL, n_addR, n_mulL, n_mulR, n_subR, n_subL, n_add, n_mul, n_neg, n_sub, n_le, n_lt, n_eq, nI_clamp, if_true, if_false, if_pos, if_neg, or_false, false_or, not_false_eq_true, not_true_eq_false]; omega)]
      have ih := x_55 hL hnp hP hc hse hR hT hg f hf la hla hl2 (j - 1) z (s + 1)
      have no : gq w tv np nt ns s = false → ∀ kn st, ∃ kn' st', g_X3_refresh_116 20 10 2 (nI ns) c3 2 (nI np) c0 T SE size fault row (g_X3_refresh_55 20 10 2 (nI ns) c3 2 (nI np) c0 T SE size fault row z) (nI la) (nI (am w np)) (nI s) (nI (gmany (gq w tv np nt ns) s)) (gleast (gq w tv np nt ns) s) (gsure (gq w tv np nt ns) s) 0 f kn st = some (nI (gmany (gq w tv np nt ns) (am w np + 1)), gleast (gq w tv np nt ns) (am w np + 1), gsure (gq w tv np nt ns) (am w np + 1), 0, f, kn', st') := by
        intro hq kn st
        unfold g_X3_refresh_116
        have := ih kn st (by omega) (by omega) (by omega)
        rw [gmany, gleast, gsure, hq, if_neg (by decide), if_neg (fun x => by cases x.1), if_neg (by decide)] at this
        rw [n_addR]
        exact this
      by_cases e1 : nI s &&& (nI (am w np) ^^^ (-1)) = 0
      · rw [if_pos e1]
        obtain ⟨b, kn1, st1, q1, q2⟩ := x_fits2 hL hnp hP hc hse hR hT f s la hla (la + 1) zF 0 kn st rfl (by show _ < 65536; omega) (by omega)
        have q1' : g_X3_fits 10 f 2 (nI np) T c0 SE size fault row (nI s) (nI la) kn st = some (b, kn1, st1) := q1
        rw [q1', pb_some]
        have hA := (gAll_iff hnp hs).mpr e1
        rcases q2 with ⟨rfl, q3⟩ | ⟨rfl, m', q3, q4, q5, q6⟩
        · have hq : gq w tv np nt ns s = true := by
            rw [gq_eq, hA, Bool.true_and, gSee_iff]
            intro k hk
            obtain ⟨⟨m, m1, m2⟩, hne⟩ := hg k hk
            have hm := hl2 k hk
            rw [m2, nI_toInt (by omega)] at hm
            have hfk := hf.2 k hk
            rw [m2, tn_of (by omega)] at hfk ⊢
            rcases q3 m (by omega) (by omega) with h | h
            · rw [hfk] at h; exact absurd h hne
            · rw [← h, hfk]
          have := ih kn1 st1 (by omega) (by omega) (by omega)
          rw [gmany, gleast, gsure, if_pos hq, if_pos hq] at this
          unfold g_X3_refresh_93 g_X3_refresh_116
          rw [if_neg (show ¬ (1 : Int32) = 0 by decide)]
          by_cases c0 : gmany (gq w tv np nt ns) s = 0
          · rw [if_pos ⟨hq, g0.2.1.1 c0⟩] at this
            rw [if_pos (show nI (gmany (gq w tv np nt ns) s) = 0 by rw [c0]; rfl), n_addR, n_addR]
            exact this
          · rw [if_neg (fun x => c0 (g0.2.1.2 x.2))] at this
            rw [if_neg (show ¬ nI (gmany (gq w tv np nt ns) s) = 0 by simp (disch := omega) only [n_z1, n_z2, n_z3, n_z4, n_z5, n_z6, n_z7, n_z8, n_leL, n_leR, n_ltL, n_ltR, n_eqL, n_eqR, n_m1R, n_addL, n_addR, n_mulL, n_mulR, n_subR, n_subL, n_add, n_mul, n_neg, n_sub, n_le, n_lt, n_eq, nI_clamp, if_true, if_false, if_pos, if_neg, or_false, false_or, not_false_eq_true, not_true_eq_false]; exact c0), n_addR, n_addR]
            exact this
        · have hq : gq w tv np nt ns s = false := by
            rw [gq_eq, hA, Bool.true_and]
            cases hh : gSee w tv np nt ns s with
            | false => rfl
            | true =>
              rcases hf.1 m' (by omega) with h | ⟨k, k1, k2, k3⟩
              · exact absurd h q5
              · have := gSee_iff.mp hh k k1
                rw [k2, tn_of (by omega)] at this
                exact absurd (by rw [k3, this]) q6
          rw [if_pos rfl]
          exact no hq kn1 st1
      · rw [if_neg e1]
        have hq : gq w tv np nt ns s = false := by
          rw [gq_eq]
          cases hh : gAll w np s with
          | false => rfl
          | true => exact absurd ((gAll_iff hnp hs).mp hh) e1
        exact no hq kn st
theorem gq_hi (hnp : np ≤ 5) (s : Nat) (h1 : am w np + 1 ≤ s) (h2 : s < 32) : gq w tv np nt ns s = false := by
  have hl := am_lt w np
  have h32 : 2 ^ np ≤ 2 ^ 5 := Nat.pow_le_pow_right (by omega) hnp
  rw [gq_eq]
  cases hh : gAll w np s with
  | false => rfl
  | true =>
    have := (sub_le (a := am w np) h2 (by omega) ((gAll_iff hnp h2).mp hh)).1
    omega
theorem x_guess (hL : L ≤ 40) (hnp : np ≤ 5) (hns : ns ≤ 10) (hP : PG w np) (hc : ∀ p, p < np → c0 (2 * p) = w (13 + p) ∧ c0 (2 * p + 1) = w (18 + p)) (hc3 : ∀ k, k < ns → c3 (2 * k) = w (95 + k) ∧ c3 (2 * k + 1) = w (105 + k)) (hse : ∀ j, j < 3 → SE j = w j) (hR : RT c L (w 2) (w 0) size fault row tv) (hT : TKX w nt T) (hg : SG w ns)
    (s1 s2 s3 gst : Int32) (hgs : gst ≠ 0) (f kn : Nat → Int32) (st : Nat → Int64) : ∃ f' kn' st', g_X3_refresh 20 10 2 (nI ns) c3 2 (nI np) c0 T SE size fault row s1 s2 s3 gst f kn st = some (nI (gmany (gq w tv np nt ns) 32), gleast (gq w tv np nt ns) 32, gsure (gq w tv np nt ns) 32, 0, f', kn', st') := by
  have hl := am_lt w np
  have h32 : 2 ^ np ≤ 2 ^ 5 := Nat.pow_le_pow_right (by omega) hnp
  unfold g_X3_refresh
  rw [if_neg hgs]
  obtain ⟨f', h | h⟩ := x_note hns hg hc3 f
  · obtain ⟨h1, h2⟩ := h
    rw [h1, pb_some, if_neg (show ¬ (1 : Int32) = 0 by decide)]
    obtain ⟨la, e1, e2, e3⟩ := gr_bd (fun k => w (95 + k)) 240 (by omega) ns (fun k hk => by
      obtain ⟨⟨m, m1, m2⟩, _⟩ := hg k hk
      show 0 ≤ (w (95 + k)).toInt ∧ _
      rw [m2, nI_toInt (by omega)]
      omega)
    have g0 : g_X7_greatest 20 2 (nI ns) c3 0 = some (nI la) := by
      rw [x_greatest (g := fun k => w (95 + k)) (by omega) (fun k hk => by rw [x_at20 hk (by omega) (by omega) (by omega), (hc3 k hk).1]), e2]
    rw [g0, pb_some, x_people hnp hc, pb_some]
    obtain ⟨kn', st', q⟩ := x_55 (c3 := c3) hL hnp hP hc hse hR hT hg f' h2 la e1 e3 (am w np + 1) zF 0 kn st rfl (by show _ < 65536; omega) (by omega)
    obtain ⟨x1, x2, x3⟩ := gm_ext (gq w tv np nt ns) (am w np + 1) (31 - am w np) (fun s a b => gq_hi hnp s a (by omega))
    rw [show am w np + 1 + (31 - am w np) = 32 by omega] at x1 x2 x3
    rw [x1, x2, x3]
    exact ⟨f', kn', st', q⟩
  · obtain ⟨h1, k1, k2, k3, k4, k5, k6⟩ := h
    rw [h1, pb_some, if_pos rfl]
    obtain ⟨x1, x2, x3⟩ := gm_ext (gq w tv np nt ns) 0 32 (fun s a b => by
      rw [gq_eq]
      cases hh : gSee w tv np nt ns s with
      | false => rw [Bool.and_false]
      | true =>
        have q1 := gSee_iff.mp hh k1 k3
        have q2 := gSee_iff.mp hh k2 k4
        rw [k5] at q1
        exact absurd (q1.symm.trans q2) k6)
    rw [show 0 + 32 = 32 from rfl] at x1 x2 x3
    rw [x1, x2, x3]
    exact ⟨f', kn, st, rfl⟩
abbrev KH := Int32 → Int32 → Int32 → Int32 → Int32 → Int32 → Int32 → Int32 → (Nat → Int32) → (Nat → Int32) → (Nat → Int32) → (Nat → Int32) → (Nat → Int32) → (Nat → Int32) → (Nat → Int64) → (Nat → Int32) → Option (Int32 × Int32 × Int32 × Int32 × (Nat → Int32) × (Nat → Int32) × (Nat → Int32) × (Nat → Int32) × (Nat → Int32) × (Nat → Int32) × (Nat → Int64) × (Nat → Int32))
theorem gSee_succ (w : Nat → Int32) (tv : TVT) (np nt k s : Nat) : gSee w tv np nt (k + 1) s = (gSee w tv np nt k s && decide (cw w tv (nI s) nt np 0 (tn (w (95 + k))) = w (105 + k))) := by
  unfold gSee
  rw [List.range_succ, List.all_append]
  simp
theorem m_103 (hns : ns ≤ 10) (hw6 : w 6 = nI ns) (hg : SG w ns) (x1 : Int32) (k72 : KH) (x2 x3 x4 x5 : Int32) (s : Nat) (a b p : Int32) (H W A C N T : Nat → Int32) (S : Nat → Int64) (R : Nat → Int32) (hC : WOK w tv (nI s) nt np C N) :
    ∀ (j z k : Nat), ns - k = j → j < z → k ≤ ns → g_X11_who_103 w x1 k72 z x2 x3 x4 x5 (nI s) (if gSee w tv np nt k s = true then 1 else 0) (nI k) a b p H W A C N T S R =
      if gSee w tv np nt ns s = true then k72 x2 (x3 + 1) (if x4 = -1 then nI s else x4) (x5 &&& nI s) (nI (s + 1)) a b p H W A C N T S R else k72 x2 x3 x4 x5 (nI (s + 1)) a b p H W A C N T S R
  | _, 0, _, _, h, _ => absurd h (Nat.not_lt_zero _)
  | j, z + 1, k, h1, h2, h3 => by
    rw [g_X11_who_103]
    unfold g_X11_who_103b g_X11_who_182 g_X11_who_191 g_X11_who_152 g_X11_who_153
    by_cases e : ns ≤ k
    · rw [if_pos (show w 6 ≤ nI k by rw [hw6]; simp (disch := omega) only [n_z1, n_z2, n_z3, n_z4, n_z5, n_z6, n_z7, n_z8, n_leL, n_leR, n_ltL, n_ltR, n_eqL, n_eqR, n_m1R, n_addL, n_addR, n_mulL, n_mulR, n_subR, n_subL, n_add, n_mul, n_neg, n_sub, n_le, n_lt, n_eq, nI_clamp, if_true, if_false, if_pos, if_neg, or_false, false_or, not_false_eq_true, not_true_eq_false]; omega), show k = ns by omega, n_addR]
      by_cases c : gSee w tv np nt ns s = true
      · rw [if_pos c, if_pos c, if_neg (show ¬ (1 : Int32) = 0 by decide)]
        by_cases c2 : x4 = -1
        · rw [if_pos c2, if_pos c2]
        · rw [if_neg c2, if_neg c2]
      · rw [if_neg c, if_neg c, if_pos rfl]
    · rw [if_neg (show ¬ w 6 ≤ nI k by rw [hw6]; simp (disch := omega) only [n_z1, n_z2, n_z3, n_z4, n_z5, n_z6, n_z7, n_z8, n_leL, n_leR, n_ltL, n_ltR, n_eqL, n_eqR, n_m1R, n_addL, n_addR, n_mulL, n_mulR, n_subR, n_subL, n_add, n_mul, n_neg, n_sub, n_le, n_lt, n_eq, nI_clamp, if_true, if_false, if_pos, if_neg, or_false, false_or, not_false_eq_true, not_true_eq_false]; omega), n_addR]
      have ih := m_103 hns hw6 hg x1 k72 x2 x3 x4 x5 s a b p H W A C N T S R hC (j - 1) z (k + 1) (by omega) (by omega) (by omega)
      rw [gSee_succ] at ih
      obtain ⟨⟨m, m1, m2⟩, hne⟩ := hg k (by omega)
      by_cases c : gSee w tv np nt k s = true
      · rw [if_pos c, if_neg (show ¬ (1 : Int32) = 0 by decide)]
        simp (disch := omega) only [n_z1, n_z2, n_z3, n_z4, n_z5, n_z6, n_z7, n_z8, n_leL, n_leR, n_ltL, n_ltR, n_eqL, n_eqR, n_m1R, n_addL, n_addR, n_mulL, n_mulR, n_subR, n_subL, n_add, n_mul, n_neg, n_sub, n_le, n_lt, n_eq, nI_clamp, if_true, if_false, if_pos, if_neg, or_false, false_or, not_false_eq_true, not_true_eq_false, m2]
        have hcm := hC.1 0 (by omega) m m1
        rw [show 241 * 0 + m = m by omega] at hcm
        rw [hcm]
        rw [c, Bool.true_and, m2, tn_of (by omega)] at ih
        by_cases c2 : cw w tv (nI s) nt np 0 m = w (105 + k)
        · rw [if_pos c2]
          rw [if_pos (by simpa using c2)] at ih
          exact ih
        · rw [if_neg c2]
          rw [if_neg (by simpa using c2)] at ih
          exact ih
      · rw [if_neg c, if_pos rfl]
        have c' : gSee w tv np nt k s = false := by simpa using c
        rw [c', Bool.false_and, if_neg (by decide)] at ih
        exact ih
end
theorem m_72 {w row : Nat → Int32} {tv : TVT} {np nt nd ns nr : Nat} {size fault : Int32} (hG : RG w np nt nd ns nr) (hg : SG w ns) (hR : RT (fun j => w (115 + j)) nr (w 2) (w 0) size fault row tv) (x1 : Int32) (R : Nat → Int32) :
    ∀ (j z s : Nat) (a b p : Int32) (H W A C N T : Nat → Int32) (S : Nat → Int64), 32 - s = j → j < z → s ≤ 32 →
      ∃ a' b' p' H' W' A' C' N' T' S', g_X11_who_72 w x1 z (nI (am w np)) (nI (gmany (gq w tv np nt ns) s)) (gleast (gq w tv np nt ns) s) (if gmany (gq w tv np nt ns) s = 0 then nI (am w np) else gsure (gq w tv np nt ns) s) (nI s) a b p H W A C N T S R = some (if x1 = 0 then nI (gmany (gq w tv np nt ns) 32) else if x1 = 1 then gleast (gq w tv np nt ns) 32 else gsure (gq w tv np nt ns) 32, a', b', p', H', W', A', C', N', T', S', R)
  | _, 0, _, _, _, _, _, _, _, _, _, _, _, _, h, _ => absurd h (Nat.not_lt_zero _)
  | j, z + 1, s, a, b, p, H, W, A, C, N, T, S, h1, h2, h3 => by
    have hb := hG.1
    have hl := am_lt w np
    have h32 : 2 ^ np ≤ 2 ^ 5 := Nat.pow_le_pow_right (by omega) hb.1
    have g0 := gm_0 (gq w tv np nt ns) s h3
    rw [g_X11_who_72]
    unfold g_X11_who_72b
    by_cases e : 32 ≤ s
    · have : s = 32 := by omega
      subst this
      rw [if_pos (show 32 ≤ nI 32 by decide)]
      by_cases c1 : x1 = 0
      · rw [if_pos c1, if_pos c1]
        exact ⟨_, _, _, _, _, _, _, _, _, _, rfl⟩
      · rw [if_neg c1, if_neg c1]
        by_cases c2 : gmany (gq w tv np nt ns) 32 = 0
        · rw [if_pos (show nI (gmany (gq w tv np nt ns) 32) = 0 by rw [c2]; rfl), g0.2.1.1 c2, g0.2.2 c2, ite_self]
          exact ⟨_, _, _, _, _, _, _, _, _, _, rfl⟩
        · rw [if_neg (show ¬ nI (gmany (gq w tv np nt ns) 32) = 0 by simp (disch := omega) only [n_z1, n_z2, n_z3, n_z4, n_z5, n_z6, n_z7, n_z8, n_leL, n_leR, n_ltL, n_ltR, n_eqL, n_eqR, n_m1R, n_addL, n_addR, n_mulL, n_mulR, n_subR, n_subL, n_add, n_mul, n_neg, n_sub, n_le, n_lt, n_eq, nI_clamp, if_true, if_false, if_pos, if_neg, or_false, false_or, not_false_eq_true, not_true_eq_false]; exact c2), if_neg c2]
          by_cases c3 : x1 = 1
          · rw [if_pos c3, if_pos c3]
            exact ⟨_, _, _, _, _, _, _, _, _, _, rfl⟩
          · rw [if_neg c3, if_neg c3]
            exact ⟨_, _, _, _, _, _, _, _, _, _, rfl⟩
    · have hs : s < 32 := by omega
      rw [if_neg (show ¬ 32 ≤ nI s by simp (disch := omega) only [n_z1, n_z2, n_z3, n_z4, n_z5, n_z6, n_z7, n_z8, n_leL, n_leR, n_ltL, n_ltR, n_eqL, n_eqR, n_m1R, n_addL, n_addR, n_mulL, n_mulR, n_subR, n_subL, n_add, n_mul, n_neg, n_sub, n_le, n_lt, n_eq, nI_clamp, if_true, if_false, if_pos, if_neg, or_false, false_or, not_false_eq_true, not_true_eq_false]; omega)]
      have no : gq w tv np nt ns s = false → ∀ (a b p : Int32) (H W A C N T : Nat → Int32) (S : Nat → Int64), ∃ a' b' p' H' W' A' C' N' T' S', g_X11_who_72 w x1 z (nI (am w np)) (nI (gmany (gq w tv np nt ns) s)) (gleast (gq w tv np nt ns) s) (if gmany (gq w tv np nt ns) s = 0 then nI (am w np) else gsure (gq w tv np nt ns) s) (nI (s + 1)) a b p H W A C N T S R = some (if x1 = 0 then nI (gmany (gq w tv np nt ns) 32) else if x1 = 1 then gleast (gq w tv np nt ns) 32 else gsure (gq w tv np nt ns) 32, a', b', p', H', W', A', C', N', T', S', R) := by
        intro hq a b p H W A C N T S
        have := m_72 hG hg hR x1 R (j - 1) z (s + 1) a b p H W A C N T S (by omega) (by omega) (by omega)
        rw [gmany, gleast, gsure, hq, if_neg (show ¬ false = true by decide), if_neg (show ¬ (false = true ∧ gleast (gq w tv np nt ns) s = -1) from fun x => by cases x.1), if_neg (show ¬ false = true by decide)] at this
        exact this
      by_cases e1 : nI s &&& (nI (am w np) ^^^ (-1)) = 0
      · have hA := (gAll_iff hb.1 hs).mpr e1
        rw [if_pos e1]
        obtain ⟨a1, b1, p1, H1, W1, A1, C1, N1, T1, S1, m1, m2⟩ := m_wind hG hR (nI s) a b p H W A C N T S
        rw [m1, pb_some]
        dsimp only
        have q := m_103 (nt := nt) (np := np) (tv := tv) hb.2.2.2.1 hG.2.1.2.2.2.1 hg x1 (g_X11_who_72 w x1 z) (nI (am w np)) (nI (gmany (gq w tv np nt ns) s)) (gleast (gq w tv np nt ns) s) (if gmany (gq w tv np nt ns) s = 0 then nI (am w np) else gsure (gq w tv np nt ns) s) s a1 b1 p1 H1 W1 A1 C1 N1 T1 S1 R m2 ns zF 0 rfl (by show _ < 65536; omega) (by omega)
        have q' : g_X11_who_103 w x1 (g_X11_who_72 w x1 z) zF (nI (am w np)) (nI (gmany (gq w tv np nt ns) s)) (gleast (gq w tv np nt ns) s) (if gmany (gq w tv np nt ns) s = 0 then nI (am w np) else gsure (gq w tv np nt ns) s) (nI s) 1 0 a1 b1 p1 H1 W1 A1 C1 N1 T1 S1 R = _ := q
        rw [q']
        by_cases c : gSee w tv np nt ns s = true
        · rw [if_pos c]
          have hq : gq w tv np nt ns s = true := by rw [gq_eq, hA, c]; rfl
          have := m_72 hG hg hR x1 R (j - 1) z (s + 1) a1 b1 p1 H1 W1 A1 C1 N1 T1 S1 (by omega) (by omega) (by omega)
          rw [gmany, gleast, gsure, if_pos hq, if_pos hq, if_neg (show ¬ gmany (gq w tv np nt ns) s + 1 = 0 by omega)] at this
          rw [n_addR]
          have hand : (if gmany (gq w tv np nt ns) s = 0 then nI (am w np) else gsure (gq w tv np nt ns) s) &&& nI s = gsure (gq w tv np nt ns) s &&& nI s := by
            by_cases c0 : gmany (gq w tv np nt ns) s = 0
            · rw [if_pos c0, g0.2.2 c0, (sub_le hs (by omega) e1).2, m1_and hs]
            · rw [if_neg c0]
          rw [hand]
          have hle : (if gleast (gq w tv np nt ns) s = -1 then nI s else gleast (gq w tv np nt ns) s) = (if gq w tv np nt ns s = true ∧ gleast (gq w tv np nt ns) s = -1 then nI s else gleast (gq w tv np nt ns) s) := by
            by_cases c1 : gleast (gq w tv np nt ns) s = -1
            · rw [if_pos c1, if_pos ⟨hq, c1⟩]
            · rw [if_neg c1, if_neg (fun x => c1 x.2)]
          rw [hle]
          exact this
        · rw [if_neg c]
          have hq : gq w tv np nt ns s = false := by
            rw [gq_eq]
            have : gSee w tv np nt ns s = false := by simpa using c
            rw [this, Bool.and_false]
          exact no hq a1 b1 p1 H1 W1 A1 C1 N1 T1 S1
      · rw [if_neg e1]
        have hq : gq w tv np nt ns s = false := by
          rw [gq_eq]
          cases hh : gAll w np s with
          | false => rfl
          | true => exact absurd ((gAll_iff hb.1 hs).mp hh) e1
        unfold g_X11_who_191
        rw [n_addR]
        exact no hq a b p H W A C N T S
theorem m_23 {w : Nat → Int32} {np : Nat} (hnp : np ≤ 5) (hw3 : w 3 = nI np) (x1 a b p : Int32) (H W A C N T : Nat → Int32) (S : Nat → Int64) (R : Nat → Int32) : ∀ (j z q : Nat), np - q = j → j < z → q ≤ np → g_X11_who_23 w x1 z (nI (am w q)) (nI q) a b p H W A C N T S R = g_X11_who_72 w x1 zF (nI (am w np)) 0 (-1) (nI (am w np)) 0 a b p H W A C N T S R
  | _, 0, _, _, h, _ => absurd h (Nat.not_lt_zero _)
  | j, z + 1, q, h1, h2, h3 => by
    have hl := am_lt w q
    rw [g_X11_who_23]
    unfold g_X11_who_23b g_X11_who_53
    by_cases e : np ≤ q
    · rw [if_pos (show w 3 ≤ nI q by rw [hw3]; simp (disch := omega) only [n_z1, n_z2, n_z3, n_z4, n_z5, n_z6, n_z7, n_z8, n_leL, n_leR, n_ltL, n_ltR, n_eqL, n_eqR, n_m1R, n_addL, n_addR, n_mulL, n_mulR, n_subR, n_subL, n_add, n_mul, n_neg, n_sub, n_le, n_lt, n_eq, nI_clamp, if_true, if_false, if_pos, if_neg, or_false, false_or, not_false_eq_true, not_true_eq_false]; omega), show q = np by omega]
    · rw [if_neg (show ¬ w 3 ≤ nI q by rw [hw3]; simp (disch := omega) only [n_z1, n_z2, n_z3, n_z4, n_z5, n_z6, n_z7, n_z8, n_leL, n_leR, n_ltL, n_ltR, n_eqL, n_eqR, n_m1R, n_addL, n_addR, n_mulL, n_mulR, n_subR, n_subL, n_add, n_mul, n_neg, n_sub, n_le, n_lt, n_eq, nI_clamp, if_true, if_false, if_pos, if_neg, or_false, false_or, not_false_eq_true, not_true_eq_false]; omega)]
      have ih := m_23 hnp hw3 x1 a b p H W A C N T S R (j - 1) z (q + 1) (by omega) (by omega) (by omega)
      rw [am] at ih
      simp (disch := omega) only [n_z1, n_z2, n_z3, n_z4, n_z5, n_z6, n_z7, n_z8, n_leL, n_leR, n_ltL, n_ltR, n_eqL, n_eqR, n_m1R, n_addL, n_addR, n_mulL, n_mulR, n_subR, n_subL, n_add, n_mul, n_neg, n_sub, n_le, n_lt, n_eq, nI_clamp, if_true, if_false, if_pos, if_neg, or_false, false_or, not_false_eq_true, not_true_eq_false]
      rw [am_or (by omega) hl]
      by_cases c : w (18 + q) = 0
      · rw [if_pos c] at ih ⊢; exact ih
      · rw [if_neg c] at ih ⊢
        rw [Int32.or_zero]; exact ih
theorem m_72z {w row : Nat → Int32} {tv : TVT} {np nt nd ns nr : Nat} {size fault : Int32} (hG : RG w np nt nd ns nr) (hg : SG w ns) (hR : RT (fun j => w (115 + j)) nr (w 2) (w 0) size fault row tv) (x1 : Int32) (R : Nat → Int32) (a b p : Int32) (H W A C N T : Nat → Int32) (S : Nat → Int64) :
    ∃ a' b' p' H' W' A' C' N' T' S', g_X11_who_72 w x1 zF (nI (am w np)) 0 (-1) (nI (am w np)) 0 a b p H W A C N T S R = some (if x1 = 0 then nI (gmany (gq w tv np nt ns) 32) else if x1 = 1 then gleast (gq w tv np nt ns) 32 else gsure (gq w tv np nt ns) 32, a', b', p', H', W', A', C', N', T', S', R) := by
  have q := m_72 hG hg hR x1 R 32 zF 0 a b p H W A C N T S rfl (by decide) (by omega)
  have q1 : gmany (gq w tv np nt ns) 0 = 0 := by rw [gmany]
  have q2 : gleast (gq w tv np nt ns) 0 = -1 := by rw [gleast]
  rw [q1, q2, if_pos rfl] at q
  exact q
theorem m_23z {w : Nat → Int32} {np : Nat} (hnp : np ≤ 5) (hw3 : w 3 = nI np) (x1 a b p : Int32) (H W A C N T : Nat → Int32) (S : Nat → Int64) (R : Nat → Int32) : g_X11_who_23 w x1 zF 0 0 a b p H W A C N T S R = g_X11_who_72 w x1 zF (nI (am w np)) 0 (-1) (nI (am w np)) 0 a b p H W A C N T S R := by
  have q := m_23 hnp hw3 x1 a b p H W A C N T S R np zF 0 rfl (by show _ < 65536; omega) (by omega)
  have q1 : am w 0 = 0 := by rw [am]
  rw [q1] at q
  exact q
theorem zp_who : zstep_who Inv := by
  intro I Aa J V h a1
  obtain ⟨hS, hT, hR, hI, hF, ⟨hr, hd, hg⟩, hp⟩ := h
  have hS' := hS
  obtain ⟨np, nt, nd, ns, nr, hG, hC⟩ := hS
  have hb := hG.1
  have hn := rg_np hG
  have hs0 := hC.1.1
  have hs3 := hC.1.2.2.2.1
  have hsg : SG (Aa 45) ns := fun k hk => by
    have := hG.2.2.2.2.2.2.2.1 k hk
    obtain ⟨m, q1, q2⟩ := i32c this.1.1 (n := 240) this.1.2
    refine ⟨⟨m, q1, q2⟩, fun q => ?_⟩
    have h2 := this.2.1
    rw [q] at h2
    revert h2
    decide
  unfold g_X10_who g_X11_who
  rw [p_isInZ a1 0 2 0 2 rfl rfl, p_inN a1 0 2 0 2 rfl rfl, hr2, hm2]
  simp only [pb_some, ite10]
  by_cases e1 : 0 ≤ a1.toInt ∧ a1.toInt ≤ 2
  · rw [if_neg (not_not_intro e1), if_neg (not_not_intro e1)]
    obtain ⟨size', pl', fault', row', T', C0', C1', kn', st', tv0, x1, x2, x3, x4⟩ := x_prepare hG hC (I 16) hr hd (Aa 17) (J 0)
    have key : ∃ tv f kn st, RT (fun j => Aa 45 (115 + j)) nr (Aa 45 2) (Aa 45 0) size' fault' row' tv ∧ g_X3_refresh 20 10 2 (I 3) (Aa 3) 2 (I 0) (Aa 0) T' (Aa 5) size' fault' row' (I 22) (I 23) (I 24) (I 25) (Aa 22) kn' st' = some (nI (gmany (gq (Aa 45) tv np nt ns) 32), gleast (gq (Aa 45) tv np nt ns) 32, gsure (gq (Aa 45) tv np nt ns) 32, 0, f, kn, st) := by
      by_cases e : I 25 = 0
      · obtain ⟨⟨_, g2⟩, tv, g3, g4⟩ := id (hg e)
        obtain ⟨rfl, rfl, rfl⟩ := x4 g2
        rw [hn.2.2.2.2] at g3
        rw [hn.1, hn.2.1, hn.2.2.2.1] at g4
        refine ⟨tv, Aa 22, kn', st', g3, ?_⟩
        unfold g_X3_refresh
        rw [if_pos e, g4.1, g4.2.1, g4.2.2, e]
      · obtain ⟨f', kn2, st2, q⟩ := x_guess (c3 := Aa 3) (SE := Aa 5) (rg_tx hG).1 hb.1 hb.2.2.2.1 (rg_pg hG) hC.2.2.2.1 hC.2.2.2.2.2.2.1 hC.2.1 x2 x3.1 hsg (I 22) (I 23) (I 24) (I 25) e (Aa 22) kn' st'
        rw [hs0, hs3]
        exact ⟨tv0, f', kn2, st2, x2, q⟩
    obtain ⟨tv, f, kn2, st2, k1, k2⟩ := key
    rw [x1, pb_some]
    dsimp only
    rw [k2, pb_some]
    obtain ⟨a', b', p', H', W', A', C', N', T2, S', m2'⟩ := m_72z hG hsg k1 a1 (Aa 51) (I 45) (I 46) (I 47) (Aa 55) (Aa 54) (Aa 53) (Aa 56) (Aa 57) (Aa 58) (J 2)
    have m1' := m_23z hb.1 hG.2.1.1 a1 (I 45) (I 46) (I 47) (Aa 55) (Aa 54) (Aa 53) (Aa 56) (Aa 57) (Aa 58) (J 2) (Aa 51)
    rw [m1', m2']
    obtain ⟨y1, y2, _⟩ := ic_prep hG hg x2 x3 x4
    have y3 : cG (Aa 45) size' fault' 0 row' 0 0 (nI (gmany (gq (Aa 45) tv np nt ns) 32)) (gleast (gq (Aa 45) tv np nt ns) 32) (gsure (gq (Aa 45) tv np nt ns) 32) := by
      intro _
      refine ⟨⟨rfl, rfl⟩, tv, by rw [hn.2.2.2.2]; exact k1, ?_⟩
      rw [hn.1, hn.2.1, hn.2.2.2.1]
      exact ⟨rfl, rfl, rfl⟩
    obtain ⟨x, hx, rfl⟩ := i32c e1.1 (n := 2) e1.2
    unfold g_X3_told
    obtain ⟨gm, hgm⟩ : ∃ g, nI (gmany (gq (Aa 45) tv np nt ns) 32) = g := ⟨_, rfl⟩
    obtain ⟨gl, hgl⟩ : ∃ g, gleast (gq (Aa 45) tv np nt ns) 32 = g := ⟨_, rfl⟩
    obtain ⟨gs, hgs⟩ : ∃ g, gsure (gq (Aa 45) tv np nt ns) 32 = g := ⟨_, rfl⟩
    rw [hgm, hgl, hgs] at y3 ⊢
    have fin : ∀ ans, Inv (va_up (va_up (va_up (va_up (va_up (va_up (va_up (va_up (va_up (va_up (va_up (va_up I 15 size') 16 pl') 17 fault') 18 0) 19 0) 22 gm) 23 gl) 24 gs) 25 0) 45 a') 46 b') 47 p') (va_up (va_up (va_up (va_up (va_up (va_up (va_up (va_up (va_up (va_up (va_up (va_up (va_up (va_up Aa 16 row') 18 T') 19 C0') 20 C1') 17 kn2) 22 f) 44 (Aa 44)) 55 H') 54 W') 53 A') 56 C') 57 N') 58 T2) 51 (Aa 51)) (va_up (va_up J 0 st2) 2 S') V ∧ ans = (ans : Int32) := fun ans => ⟨⟨hS', hT, hR, hI, hF, ⟨y1, y2, y3⟩, hp⟩, rfl⟩
    rcases (show x = 0 ∨ x = 1 ∨ x = 2 by omega) with rfl | rfl | rfl
    · rw [if_pos (show nI 0 = 0 from rfl), pb_some, if_pos (show nI 0 = 0 from rfl)]
      exact ⟨_, _, rfl, rfl, rfl, (fin 0).1⟩
    · rw [if_neg (show ¬ nI 1 = 0 by decide), if_pos (show nI 1 = 1 from rfl), pb_some, if_neg (show ¬ nI 1 = 0 by decide), if_pos (show nI 1 = 1 from rfl)]
      exact ⟨_, _, rfl, rfl, rfl, (fin 0).1⟩
    · rw [if_neg (show ¬ nI 2 = 0 by decide), if_neg (show ¬ nI 2 = 1 by decide), pb_some, if_neg (show ¬ nI 2 = 0 by decide), if_neg (show ¬ nI 2 = 1 by decide)]
      exact ⟨_, _, rfl, rfl, rfl, (fin 0).1⟩
  · rw [if_pos e1, if_pos e1]
    exact ⟨_, _, rfl, rfl, rfl, hS', hT, iR_0 hR, hI, hF, ⟨hr, hd, hg⟩, hp⟩
