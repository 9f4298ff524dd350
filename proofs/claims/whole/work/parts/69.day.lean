/-! THE DAY: the class winds its clocks -/
def DOK (w : Nat → Int32) (tv : TVT) (nt np : Nat) (T C0 C1 : Nat → Int32) : Prop := TKX w nt T ∧ (∀ m, m ≤ 240 → C0 m = cw w tv 31 nt np 0 m) ∧ (∀ m, m ≤ 240 → C1 m = cw w tv 31 nt np 1 m)
section
variable {w c0 c1 SE row T : Nat → Int32} {tv : TVT} {np nt L : Nat} {size fault : Int32} {c : Nat → Int32}
abbrev K30 := Int32 → Int32 → Int32 → (Nat → Int32) → (Nat → Int32) → (Nat → Int32) → (Nat → Int32) → (Nat → Int64) → Option (Int32 × (Nat → Int32) × (Nat → Int32) × (Nat → Int32) × (Nat → Int32) × (Nat → Int64))
theorem x_ref0 (hL : L ≤ 40) (hnp : np ≤ 5) (hP : PG w np) (hc : ∀ p, p < np → c0 (2 * p) = w (13 + p) ∧ c0 (2 * p + 1) = w (18 + p)) (hse : ∀ j, j < 3 → SE j = w j) (hR : RT c L (w 2) (w 0) size fault row tv) (hT : TKX w nt T)
    (k30 : K30) (tw ts st9 : Int32) (C1 : Nat → Int32) : ∀ (k n m : Nat) (C0 kn : Nat → Int32) (st : Nat → Int64), 240 - m = k → k < n → m ≤ 240 → (∀ j, j < m → C0 j = cw w tv 31 nt np 0 j) →
    ∃ C0' kn' st', g_X1_refresh_44 48 10 tw ts c1 2 (nI np) c0 SE size fault row k30 n (nI np) (nI 0) (cw w tv 31 nt np 0 m) (nI m) st9 T C0 C1 kn st = k30 (nI np) (nI 1) st9 T C0' C1 kn' st' ∧ ∀ j, j ≤ 240 → C0' j = cw w tv 31 nt np 0 j
  | _, 0, _, _, _, _, _, h, _, _ => absurd h (Nat.not_lt_zero _)
  | k, n + 1, m, C0, kn, st, h1, h2, h3, h4 => by
    rw [g_X1_refresh_44]
    unfold g_X1_refresh_44b
    by_cases e : 240 ≤ m
    · simp (disch := omega) only [n_z1, n_z2, n_z3, n_z4, n_z5, n_z6, n_z7, n_z8, n_leL, n_leR, n_ltL, n_ltR, n_eqL, n_eqR, n_m1R, n_addL, n_addR, n_mulL, n_mulR, n_subR, n_subL, n_add, n_mul, n_neg, n_sub, n_le, n_lt, n_eq, nI_clamp, if_true, if_false, if_pos, if_neg, or_false, false_or, not_false_eq_true, not_true_eq_false]
      refine ⟨_, kn, st, rfl, fun j hj => ?_⟩
      rw [upd_eq]
      by_cases e2 : j = 240
      · rw [if_pos e2, e2, show m = 240 by omega]
      · rw [if_neg e2]; exact h4 j (by omega)
    · simp (disch := omega) only [n_z1, n_z2, n_z3, n_z4, n_z5, n_z6, n_z7, n_z8, n_leL, n_leR, n_ltL, n_ltR, n_eqL, n_eqR, n_m1R, n_addL, n_addR, n_mulL, n_mulR, n_subR, n_subL, n_add, n_mul, n_neg, n_sub, n_le, n_lt, n_eq, nI_clamp, if_true, if_false, if_pos, if_neg, or_false, false_or, not_false_eq_true, not_true_eq_false]
      obtain ⟨kn1, st1, ht⟩ := x_together hL hnp hP hc hse hR hT 31 0 m np (by omega) (Nat.le_refl np) (cw w tv 31 nt np 0 m) kn st
      rw [ht, pb_some, hse 0 (by omega)]
      refine x_ref0 hL hnp hP hc hse hR hT k30 tw ts st9 C1 (k - 1) n (m + 1) _ kn1 st1 (by omega) (by omega) (by omega) ?_
      intro j hj
      rw [upd_eq]
      by_cases e2 : j = m
      · rw [if_pos e2, e2]
      · rw [if_neg e2]; exact h4 j (by omega)
theorem x_ref1 (hL : L ≤ 40) (hnp : np ≤ 5) (hP : PG w np) (hc : ∀ p, p < np → c0 (2 * p) = w (13 + p) ∧ c0 (2 * p + 1) = w (18 + p)) (hse : ∀ j, j < 3 → SE j = w j) (hR : RT c L (w 2) (w 0) size fault row tv) (hT : TKX w nt T)
    (k30 : K30) (tw ts st9 : Int32) (C0 : Nat → Int32) : ∀ (k n m : Nat) (C1 kn : Nat → Int32) (st : Nat → Int64), 240 - m = k → k < n → m ≤ 240 → (∀ j, j < m → C1 j = cw w tv 31 nt np 1 j) →
    ∃ C1' kn' st', g_X1_refresh_44 48 10 tw ts c1 2 (nI np) c0 SE size fault row k30 n (nI np) (nI 1) (cw w tv 31 nt np 1 m) (nI m) st9 T C0 C1 kn st = k30 (nI np) (nI 2) st9 T C0 C1' kn' st' ∧ ∀ j, j ≤ 240 → C1' j = cw w tv 31 nt np 1 j
  | _, 0, _, _, _, _, _, h, _, _ => absurd h (Nat.not_lt_zero _)
  | k, n + 1, m, C1, kn, st, h1, h2, h3, h4 => by
    rw [g_X1_refresh_44]
    unfold g_X1_refresh_44b
    by_cases e : 240 ≤ m
    · simp (disch := omega) only [n_z1, n_z2, n_z3, n_z4, n_z5, n_z6, n_z7, n_z8, n_leL, n_leR, n_ltL, n_ltR, n_eqL, n_eqR, n_m1R, n_addL, n_addR, n_mulL, n_mulR, n_subR, n_subL, n_add, n_mul, n_neg, n_sub, n_le, n_lt, n_eq, nI_clamp, if_true, if_false, if_pos, if_neg, or_false, false_or, not_false_eq_true, not_true_eq_false]
      refine ⟨_, kn, st, rfl, fun j hj => ?_⟩
      rw [upd_eq]
      by_cases e2 : j = 240
      · rw [if_pos e2, e2, show m = 240 by omega]
      · rw [if_neg e2]; exact h4 j (by omega)
    · simp (disch := omega) only [n_z1, n_z2, n_z3, n_z4, n_z5, n_z6, n_z7, n_z8, n_leL, n_leR, n_ltL, n_ltR, n_eqL, n_eqR, n_m1R, n_addL, n_addR, n_mulL, n_mulR, n_subR, n_subL, n_add, n_mul, n_neg, n_sub, n_le, n_lt, n_eq, nI_clamp, if_true, if_false, if_pos, if_neg, or_false, false_or, not_false_eq_true, not_true_eq_false]
      obtain ⟨kn1, st1, ht⟩ := x_together hL hnp hP hc hse hR hT 31 1 m np (by omega) (Nat.le_refl np) (cw w tv 31 nt np 1 m) kn st
      rw [ht, pb_some, hse 0 (by omega)]
      refine x_ref1 hL hnp hP hc hse hR hT k30 tw ts st9 C0 (k - 1) n (m + 1) _ kn1 st1 (by omega) (by omega) (by omega) ?_
      intro j hj
      rw [upd_eq]
      by_cases e2 : j = m
      · rw [if_pos e2, e2]
      · rw [if_neg e2]; exact h4 j (by omega)
theorem x_dayref (hL : L ≤ 40) (hnp : np ≤ 5) (hnt : nt ≤ 16) (hP : PG w np) (hG : TG w np nt) (hc : ∀ p, p < np → c0 (2 * p) = w (13 + p) ∧ c0 (2 * p + 1) = w (18 + p)) (hc1 : ∀ t, t < nt → c1 (3 * t) = w (23 + t) ∧ c1 (3 * t + 1) = w (39 + t) ∧ c1 (3 * t + 2) = w (55 + t)) (hse : ∀ j, j < 3 → SE j = w j) (hR : RT c L (w 2) (w 0) size fault row tv)
    (g : Int32) (T0 C0 C1 kn : Nat → Int32) (st : Nat → Int64) (hg : g = 0 → DOK w tv nt np T0 C0 C1) :
    ∃ T' C0' C1' kn' st', g_X1_refresh 48 10 3 (nI nt) c1 2 (nI np) c0 SE size fault row g T0 C0 C1 kn st = some (0, T', C0', C1', kn', st') ∧ DOK w tv nt np T' C0' C1' := by
  unfold g_X1_refresh
  by_cases e : g = 0
  · rw [if_pos e, e]
    exact ⟨T0, C0, C1, kn, st, rfl, hg e⟩
  · rw [if_neg e]
    obtain ⟨T', h1, h2⟩ := x_talkers hnp hnt hG hc1 T0
    rw [h1, pb_some]
    show ∃ T' C0' C1' kn' st', (some (nI np)).bind _ = _ ∧ _
    rw [pb_some]
    obtain ⟨C0', kn1, st1, a1, a2⟩ := x_ref0 (SE := SE) (c1 := c1) hL hnp hP hc hse hR h2 (g_X1_refresh_30 48 10 3 (nI nt) c1 2 (nI np) c0 SE size fault row 65535) 3 (nI nt) 0 C1 240 zF 0 C0 kn st rfl (by decide) (by omega) (fun j h => by omega)
    obtain ⟨C1', kn2, st2, b1, b2⟩ := x_ref1 (SE := SE) (c1 := c1) hL hnp hP hc hse hR h2 (g_X1_refresh_30 48 10 3 (nI nt) c1 2 (nI np) c0 SE size fault row 65534) 3 (nI nt) 0 C0' 240 zF 0 C1 kn1 st1 rfl (by decide) (by omega) (fun j h => by omega)
    refine ⟨T', C0', C1', kn2, st2, ?_, h2, a2, b2⟩
    have q1 : ∀ C0 C1 kn st, g_X1_refresh_30 48 10 3 (nI nt) c1 2 (nI np) c0 SE size fault row (65535 + 1) (nI np) 0 0 T' C0 C1 kn st = g_X1_refresh_44 48 10 3 (nI nt) c1 2 (nI np) c0 SE size fault row (g_X1_refresh_30 48 10 3 (nI nt) c1 2 (nI np) c0 SE size fault row 65535) zF (nI np) 0 0 0 0 T' C0 C1 kn st := by
      intro C0 C1 kn st
      rw [g_X1_refresh_30]
      unfold g_X1_refresh_30b
      rw [if_neg (by decide)]
    have q2 : ∀ C0 C1 kn st, g_X1_refresh_30 48 10 3 (nI nt) c1 2 (nI np) c0 SE size fault row (65534 + 1) (nI np) (nI 1) 0 T' C0 C1 kn st = g_X1_refresh_44 48 10 3 (nI nt) c1 2 (nI np) c0 SE size fault row (g_X1_refresh_30 48 10 3 (nI nt) c1 2 (nI np) c0 SE size fault row 65534) zF (nI np) (nI 1) 0 0 0 T' C0 C1 kn st := by
      intro C0 C1 kn st
      rw [g_X1_refresh_30]
      unfold g_X1_refresh_30b
      rw [if_neg (by decide)]
    have q3 : ∀ C0 C1 kn st, g_X1_refresh_30 48 10 3 (nI nt) c1 2 (nI np) c0 SE size fault row (65533 + 1) (nI np) (nI 2) 0 T' C0 C1 kn st = some (0, T', C0, C1, kn, st) := by
      intro C0 C1 kn st
      rw [g_X1_refresh_30]
      unfold g_X1_refresh_30b
      rw [if_pos (by decide)]
    have z1 := q1 C0 C1 kn st
    have z2 := q2 C0' C1 kn1 st1
    have z3 := q3 C0' C1' kn2 st2
    exact z1.trans (a1.trans (z2.trans (b1.trans z3)))
theorem x_clockAt (C0 C1 : Nat → Int32) (v m : Nat) (hv : v ≤ 1) (hm : m ≤ 240) : g_X1_clockAt C0 C1 (nI v) (nI m) = some (if v = 0 then C0 m else C1 m) := by
  unfold g_X1_clockAt g_X10_isValley
  have h1 : g_X10_isIn (nI v) 0 1 = some 1 := (p_isInN v 0 1 (by omega) (by omega) (by omega)).trans (by rw [if_pos (by omega)])
  have h2 : g_X10_isIn (nI m) 0 240 = some 1 := (p_isInN m 0 240 (by omega) (by omega) (by omega)).trans (by rw [if_pos (by omega)])
  rw [h1, pb_some, if_pos (Or.inr rfl), pb_some, if_neg (by decide), h2, pb_some, if_neg (by decide)]
  rcases (show v = 0 ∨ v = 1 by omega) with e | e <;> subst e
  · rw [if_pos (by rfl), if_neg (nI_in (show m < 241 by omega) (by omega)), nI_clamp (by omega), if_pos rfl]
  · rw [if_neg (by decide), if_pos (by rfl), if_neg (nI_in (show m < 241 by omega) (by omega)), nI_clamp (by omega), if_neg (by decide)]
theorem dok_clock {C0 C1 : Nat → Int32} (hD : DOK w tv nt np T C0 C1) (v m : Nat) (hv : v ≤ 1) (hm : m ≤ 240) : g_X1_clockAt C0 C1 (nI v) (nI m) = some (cw w tv 31 nt np v m) := by
  rw [x_clockAt C0 C1 v m hv hm]
  rcases (show v = 0 ∨ v = 1 by omega) with e | e <;> subst e
  · rw [if_pos rfl, hD.2.1 m hm]
  · rw [if_neg (by decide), hD.2.2 m hm]
theorem x_counted (hL : L ≤ 40) (hnp : np ≤ 5) (hP : PG w np) (hc : ∀ p, p < np → c0 (2 * p) = w (13 + p) ∧ c0 (2 * p + 1) = w (18 + p)) (hse : ∀ j, j < 3 → SE j = w j) (hR : RT c L (w 2) (w 0) size fault row tv) {C0 C1 : Nat → Int32} (hD : DOK w tv nt np T C0 C1)
    (p m v : Nat) (hp : p < np) (hm : m < 240) (hv : w (18 + p) = nI v) (hv1 : v ≤ 1) (kn : Nat → Int32) (st : Nat → Int64) :
    ∃ kn' st', g_X1_countedOf 10 T 2 (nI np) c0 C0 C1 SE size fault row (nI p) (nI m) kn st = some (ctv w tv 31 nt np v p m, kn', st') := by
  unfold g_X1_countedOf ctv
  rw [x_isTalking hD.1 (show p < 5 by omega) hm, pb_some]
  by_cases e : tk w p m nt = true
  · rw [if_pos e, if_neg (by decide), x_at21 hp (by omega) (by omega) (by omega), pb_some, (hc p hp).2, hv, dok_clock hD v m hv1 (by omega), pb_some, if_pos ⟨tb_31 (by omega), e⟩]
    obtain ⟨kn1, st1, h1⟩ := x_together hL hnp hP hc hse hR hD.1 31 v m p hm (by omega) (cw w tv 31 nt np v m) kn st
    rw [h1, pb_some]
    obtain ⟨kn2, st2, h2⟩ := x_voice hL hnp hP hc hse hR p m hp (cw w tv 31 nt np v m) (sm w tv 31 nt v m (cw w tv 31 nt np v m) p) kn1 st1
    rw [h2, pb_some]
    exact ⟨kn2, st2, rfl⟩
  · rw [if_neg e, if_pos rfl, if_neg (fun h => e h.2)]
    exact ⟨kn, st, rfl⟩
end
