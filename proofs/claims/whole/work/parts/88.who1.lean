/-! BY WHOM IT MUST HAVE BEEN TALKED: sets; the class's side -/
def am (w : Nat → Int32) : Nat → Nat
  | 0 => 0
  | p + 1 => if w (18 + p) = 0 then am w p + 2 ^ p else am w p
theorem am_lt (w : Nat → Int32) : ∀ p, am w p < 2 ^ p
  | 0 => by show 0 < 1; omega
  | p + 1 => by
    have := am_lt w p
    rw [am, Nat.pow_succ]
    split <;> omega
theorem am_or {p a : Nat} (hp : p < 5) (ha : a < 2 ^ p) : nI a ||| ((1 : Int32) <<< (nI p &&& 31)) = nI (a + 2 ^ p) := by
  have h : ∀ p : Fin 5, ∀ a : Fin 32, a.val < 2 ^ p.val → nI a.val ||| ((1 : Int32) <<< (nI p.val &&& 31)) = nI (a.val + 2 ^ p.val) := by decide +kernel
  have h32 : 2 ^ p ≤ 2 ^ 5 := Nat.pow_le_pow_right (by omega) (by omega)
  exact h ⟨p, hp⟩ ⟨a, by omega⟩ ha
theorem am_bit (w : Nat → Int32) : ∀ p q, q < p → p ≤ 5 → (am w p).testBit q = decide (w (18 + q) = 0)
  | 0, q, h, _ => absurd h (Nat.not_lt_zero _)
  | p + 1, q, h, h5 => by
    have hl := am_lt w p
    have hb : ∀ p : Fin 5, ∀ q : Fin 6, ∀ a : Fin 32, a.val < 2 ^ p.val → (a.val + 2 ^ p.val).testBit q.val = (a.val.testBit q.val || decide (q.val = p.val)) := by decide +kernel
    have h32 : 2 ^ p ≤ 2 ^ 5 := Nat.pow_le_pow_right (by omega) (by omega)
    rw [am]
    by_cases e : q = p
    · subst e
      have ht : (am w q).testBit q = false := Nat.testBit_lt_two_pow hl
      by_cases c : w (18 + q) = 0
      · rw [if_pos c, hb ⟨q, by omega⟩ ⟨q, by omega⟩ ⟨am w q, by omega⟩ hl]
        simp [c]
      · rw [if_neg c, ht]; simp [c]
    · have ih := am_bit w p q (by omega) (by omega)
      by_cases c : w (18 + p) = 0
      · rw [if_pos c, hb ⟨p, by omega⟩ ⟨q, by omega⟩ ⟨am w p, by omega⟩ hl, ih]
        simp [e]
      · rw [if_neg c, ih]
theorem tb_nI {s p : Nat} (hs : s < 32) (hp : p < 5) : TB (nI s) p = s.testBit p := by
  have h : ∀ s : Fin 32, ∀ p : Fin 5, TB (nI s.val) p.val = s.val.testBit p.val := by decide +kernel
  exact h ⟨s, hs⟩ ⟨p, hp⟩
theorem sub_iff {s a : Nat} (hs : s < 32) (ha : a < 32) : (nI s &&& (nI a ^^^ (-1)) = 0) ↔ ∀ p, p < 5 → s.testBit p = true → a.testBit p = true := by
  have h : ∀ s a : Fin 32, (nI s.val &&& (nI a.val ^^^ (-1)) = 0) ↔ ∀ p : Fin 5, s.val.testBit p.val = true → a.val.testBit p.val = true := by decide +kernel
  rw [h ⟨s, hs⟩ ⟨a, ha⟩]
  exact ⟨fun q p hp => q ⟨p, hp⟩, fun q p => q p.val p.isLt⟩
theorem sub_le {s a : Nat} (hs : s < 32) (ha : a < 32) (h : nI s &&& (nI a ^^^ (-1)) = 0) : s ≤ a ∧ nI a &&& nI s = nI s := by
  have q : ∀ s a : Fin 32, (nI s.val &&& (nI a.val ^^^ (-1)) = 0) → s.val ≤ a.val ∧ nI a.val &&& nI s.val = nI s.val := by decide +kernel
  exact q ⟨s, hs⟩ ⟨a, ha⟩ h
theorem all_31 {a : Nat} (ha : a < 32) : nI a &&& 31 = nI a := by
  have q : ∀ a : Fin 32, nI a.val &&& 31 = nI a.val := by decide +kernel
  exact q ⟨a, ha⟩
theorem m1_and {a : Nat} (ha : a < 32) : (-1 : Int32) &&& nI a = nI a := by
  have q : ∀ a : Fin 32, (-1 : Int32) &&& nI a.val = nI a.val := by decide +kernel
  exact q ⟨a, ha⟩
theorem gAll_iff {w : Nat → Int32} {np s : Nat} (hnp : np ≤ 5) (hs : s < 32) : gAll w np s = true ↔ nI s &&& (nI (am w np) ^^^ (-1)) = 0 := by
  have hl := am_lt w np
  have h32 : 2 ^ np ≤ 2 ^ 5 := Nat.pow_le_pow_right (by omega) hnp
  rw [sub_iff hs (by omega)]
  unfold gAll
  rw [List.all_eq_true]
  constructor
  · intro h p hp ht
    have := h p (List.mem_range.mpr hp)
    rw [tb_nI hs hp, ht] at this
    simp at this
    rw [am_bit w np p this.1 hnp]
    simpa using this.2
  · intro h p hp
    have hp := List.mem_range.mp hp
    rw [tb_nI hs hp]
    cases ht : s.testBit p with
    | false => rfl
    | true =>
      have := h p hp ht
      by_cases c : p < np
      · rw [am_bit w np p c hnp] at this
        have q : w (18 + p) = 0 := by simpa using this
        simp [c, q]
      · have h0 : (am w np).testBit p = false := Nat.testBit_lt_two_pow (Nat.lt_of_lt_of_le hl (Nat.pow_le_pow_right (by omega) (by omega)))
        rw [h0] at this; cases this
theorem gSee_iff {w : Nat → Int32} {tv : TVT} {np nt ns s : Nat} : gSee w tv np nt ns s = true ↔ ∀ k, k < ns → cw w tv (nI s) nt np 0 (tn (w (95 + k))) = w (105 + k) := by
  unfold gSee
  rw [List.all_eq_true]
  constructor
  · intro h k hk
    simpa using h k (List.mem_range.mpr hk)
  · intro h k hk
    simpa using h k (List.mem_range.mp hk)
theorem gm_ext (q : Nat → Bool) (n0 : Nat) : ∀ k, (∀ s, n0 ≤ s → s < n0 + k → q s = false) → gmany q (n0 + k) = gmany q n0 ∧ gleast q (n0 + k) = gleast q n0 ∧ gsure q (n0 + k) = gsure q n0
  | 0, _ => ⟨rfl, rfl, rfl⟩
  | k + 1, h => by
    obtain ⟨h1, h2, h3⟩ := gm_ext q n0 k (fun s a b => h s a (by omega))
    have hq := h (n0 + k) (by omega) (by omega)
    rw [show n0 + (k + 1) = n0 + k + 1 by omega, gmany, gleast, gsure, hq, if_neg (by decide), if_neg (fun x => by cases x.1), if_neg (by decide)]
    exact ⟨h1, h2, h3⟩
theorem gm_0 (q : Nat → Bool) : ∀ s, s ≤ 32 → (gmany q s ≤ s ∧ (gmany q s = 0 ↔ gleast q s = -1) ∧ (gmany q s = 0 → gsure q s = -1))
  | 0, _ => ⟨Nat.le_refl 0, ⟨fun _ => rfl, fun _ => rfl⟩, fun _ => rfl⟩
  | s + 1, hs => by
    obtain ⟨h0, h1, h2⟩ := gm_0 q s (by omega)
    rw [gmany, gleast, gsure]
    by_cases c : q s = true
    · rw [if_pos c, if_pos c]
      refine ⟨by omega, ⟨fun h => by omega, fun h => ?_⟩, fun h => by omega⟩
      by_cases c2 : gleast q s = -1
      · rw [if_pos ⟨c, c2⟩] at h
        exact absurd h (nf_ne (by omega))
      · rw [if_neg (fun x => c2 x.2)] at h
        exact absurd h c2
    · rw [if_neg c, if_neg c, if_neg (fun x => c x.1)]
      exact ⟨by omega, h1, h2⟩
section
variable {w c0 c3 SE row T : Nat → Int32} {tv : TVT} {np nt ns L : Nat} {size fault : Int32} {c : Nat → Int32}
theorem x_people2 (hnp : np ≤ 5) (hc : ∀ p, p < np → c0 (2 * p) = w (13 + p) ∧ c0 (2 * p + 1) = w (18 + p)) : ∀ (k z p : Nat), np - p = k → k < z → p ≤ np → g_X3_peopleThere_4 10 2 (nI np) c0 z (nI (am w p)) (nI p) = some (nI (am w np))
  | _, 0, _, _, h, _ => absurd h (Nat.not_lt_zero _)
  | k, z + 1, p, h1, h2, h3 => by
    have hl := am_lt w p
    rw [g_X3_peopleThere_4]
    unfold g_X3_peopleThere_4b g_X3_peopleThere_39 g_X7_size
    rw [pb_some]
    by_cases e : np ≤ p
    · have : p = np := by omega
      subst this
      have h32 : 2 ^ p ≤ 2 ^ 5 := Nat.pow_le_pow_right (by omega) hnp
      rw [if_pos (show nI p ≤ nI p by simp (disch := omega) only [n_z1, n_z2, n_z3, n_z4, n_z5, n_z6, n_z7, n_z8, n_leL, n_leR, n_ltL, n_ltR, n_eqL, n_eqR, n_m1R, n_addL, n_addR, n_mulL, n_mulR, n_subR, n_subL, n_add, n_mul, n_neg, n_sub, n_le, n_lt, n_eq, nI_clamp, if_true, if_false, if_pos, if_neg, or_false, false_or, not_false_eq_true, not_true_eq_false]; omega), all_31 (by omega)]
    · rw [if_neg (show ¬ nI np ≤ nI p by simp (disch := omega) only [n_z1, n_z2, n_z3, n_z4, n_z5, n_z6, n_z7, n_z8, n_leL, n_leR, n_ltL, n_ltR, n_eqL, n_eqR, n_m1R, n_addL, n_addR, n_mulL, n_mulR, n_subR, n_subL, n_add, n_mul, n_neg, n_sub, n_le, n_lt, n_eq, nI_clamp, if_true, if_false, if_pos, if_neg, or_false, false_or, not_false_eq_true, not_true_eq_false]; omega), x_at21 (by omega) (by omega) (by omega) (by omega), pb_some, (hc p (by omega)).2, am_or (by omega) hl, n_addR]
      have ih := x_people2 hnp hc (k - 1) z (p + 1) (by omega) (by omega) (by omega)
      rw [am] at ih
      by_cases c : w (18 + p) = 0
      · rw [if_pos c] at ih ⊢; exact ih
      · rw [if_neg c] at ih ⊢; exact ih
theorem x_people (hnp : np ≤ 5) (hc : ∀ p, p < np → c0 (2 * p) = w (13 + p) ∧ c0 (2 * p + 1) = w (18 + p)) : g_X3_peopleThere 10 2 (nI np) c0 = some (nI (am w np)) := x_people2 hnp hc np zF 0 rfl (by show _ < 65536; omega) (by omega)
/-- what was seen, minute by minute -/
def SN (w : Nat → Int32) (i : Nat) (f : Nat → Int32) : Prop := (∀ m, m ≤ 240 → f m = -1 ∨ ∃ k, k < i ∧ w (95 + k) = nI m ∧ f m = w (105 + k)) ∧ (∀ k, k < i → f (tn (w (95 + k))) = w (105 + k))
def SG (w : Nat → Int32) (ns : Nat) : Prop := ∀ k, k < ns → (∃ m, m ≤ 240 ∧ w (95 + k) = nI m) ∧ w (105 + k) ≠ -1
theorem x_note2 (hns : ns ≤ 10) (hg : SG w ns) (hc : ∀ k, k < ns → c3 (2 * k) = w (95 + k) ∧ c3 (2 * k + 1) = w (105 + k)) : ∀ (j z i : Nat) (f : Nat → Int32), ns - i = j → j < z → i ≤ ns → SN w i f →
    ∃ f', (g_X3_noteSights_10 20 2 (nI ns) c3 z (nI i) f = some (1, f') ∧ SN w ns f') ∨ (g_X3_noteSights_10 20 2 (nI ns) c3 z (nI i) f = some (0, f') ∧ ∃ k1 k2, k1 < ns ∧ k2 < ns ∧ w (95 + k1) = w (95 + k2) ∧ w (105 + k1) ≠ w (105 + k2))
  | _, 0, _, _, _, h, _, _ => absurd h (Nat.not_lt_zero _)
  | j, z + 1, i, f, h1, h2, h3, h4 => by
    rw [g_X3_noteSights_10]
    unfold g_X3_noteSights_10b g_X3_noteSights_83 g_X3_noteSights_90 g_X7_size
    rw [pb_some]
    by_cases e : ns ≤ i
    · rw [if_pos (show nI ns ≤ nI i by simp (disch := omega) only [n_z1, n_z2, n_z3, n_z4, n_z5, n_z6, n_z7, n_z8, n_leL, n_leR, n_ltL, n_ltR, n_eqL, n_eqR, n_m1R, n_addL, n_addR, n_mulL, n_mulR, n_subR, n_subL, n_add, n_mul, n_neg, n_sub, n_le, n_lt, n_eq, nI_clamp, if_true, if_false, if_pos, if_neg, or_false, false_or, not_false_eq_true, not_true_eq_false]; omega)]
      rw [show i = ns by omega] at h4
      exact ⟨f, Or.inl ⟨rfl, h4⟩⟩
    · obtain ⟨⟨m, m1, m2⟩, hne⟩ := hg i (by omega)
      rw [if_neg (show ¬ nI ns ≤ nI i by simp (disch := omega) only [n_z1, n_z2, n_z3, n_z4, n_z5, n_z6, n_z7, n_z8, n_leL, n_leR, n_ltL, n_ltR, n_eqL, n_eqR, n_m1R, n_addL, n_addR, n_mulL, n_mulR, n_subR, n_subL, n_add, n_mul, n_neg, n_sub, n_le, n_lt, n_eq, nI_clamp, if_true, if_false, if_pos, if_neg, or_false, false_or, not_false_eq_true, not_true_eq_false]; omega), x_at20 (by omega) (by omega) (by omega) (by omega), pb_some, x_at21 (by omega) (by omega) (by omega) (by omega), pb_some, (hc i (by omega)).1, (hc i (by omega)).2, m2]
      have hi : g_X10_isIn (nI m) 0 240 = some 1 := (p_isInN m 0 240 (by omega) (by omega) (by omega)).trans (by rw [if_pos (by omega)])
      rw [hi, pb_some, if_neg (by decide)]
      simp (disch := omega) only [n_z1, n_z2, n_z3, n_z4, n_z5, n_z6, n_z7, n_z8, n_leL, n_leR, n_ltL, n_ltR, n_eqL, n_eqR, n_m1R, n_addL, n_addR, n_mulL, n_mulR, n_subR, n_subL, n_add, n_mul, n_neg, n_sub, n_le, n_lt, n_eq, nI_clamp, if_true, if_false, if_pos, if_neg, or_false, false_or, not_false_eq_true, not_true_eq_false]
      have next : (f m = -1 ∨ f m = w (105 + i)) → SN w (i + 1) (upd f m (w (105 + i))) := by
        intro hfm
        refine ⟨fun m' hm' => ?_, fun k hk => ?_⟩
        · rw [upd_eq]
          by_cases c : m' = m
          · rw [if_pos c]
            exact Or.inr ⟨i, by omega, by rw [c]; exact m2, rfl⟩
          · rw [if_neg c]
            rcases h4.1 m' hm' with q | ⟨k, q1, q2, q3⟩
            · exact Or.inl q
            · exact Or.inr ⟨k, by omega, q2, q3⟩
        · rw [upd_eq]
          by_cases c : tn (w (95 + k)) = m
          · rw [if_pos c]
            by_cases c2 : k = i
            · rw [c2]
            · have q := h4.2 k (by omega)
              rw [c] at q
              rcases hfm with h | h
              · rw [h] at q; exact absurd q.symm (hg k (by omega)).2
              · rw [← h, q]
          · rw [if_neg c]
            by_cases c2 : k = i
            · rw [c2, m2, tn_of (by omega)] at c; exact absurd rfl c
            · exact h4.2 k (by omega)
      by_cases c : f m = -1
      · rw [if_pos c]
        exact x_note2 hns hg hc (j - 1) z (i + 1) _ (by omega) (by omega) (by omega) (next (Or.inl c))
      · rw [if_neg c]
        by_cases c2 : f m = w (105 + i)
        · rw [if_pos c2]
          exact x_note2 hns hg hc (j - 1) z (i + 1) _ (by omega) (by omega) (by omega) (next (Or.inr c2))
        · rw [if_neg c2]
          rcases h4.1 m m1 with q | ⟨k, q1, q2, q3⟩
          · exact absurd q c
          · exact ⟨f, Or.inr ⟨rfl, k, i, by omega, by omega, by rw [q2, m2], by rw [← q3]; exact c2⟩⟩
theorem x_note (hns : ns ≤ 10) (hg : SG w ns) (hc : ∀ k, k < ns → c3 (2 * k) = w (95 + k) ∧ c3 (2 * k + 1) = w (105 + k)) (f : Nat → Int32) :
    ∃ f', (g_X3_noteSights 20 2 (nI ns) c3 f = some (1, f') ∧ SN w ns f') ∨ (g_X3_noteSights 20 2 (nI ns) c3 f = some (0, f') ∧ ∃ k1 k2, k1 < ns ∧ k2 < ns ∧ w (95 + k1) = w (95 + k2) ∧ w (105 + k1) ≠ w (105 + k2)) := by
  unfold g_X3_noteSights
  rw [x_fill 241 (by omega), pb_some]
  exact x_note2 hns hg hc ns zF 0 _ rfl (by show _ < 65536; omega) (by omega) ⟨fun m hm => by (try dsimp only); rw [if_pos (by omega)]; exact Or.inl rfl, fun k hk => by omega⟩
theorem x_fits2 (hL : L ≤ 40) (hnp : np ≤ 5) (hP : PG w np) (hc : ∀ p, p < np → c0 (2 * p) = w (13 + p) ∧ c0 (2 * p + 1) = w (18 + p)) (hse : ∀ j, j < 3 → SE j = w j) (hR : RT c L (w 2) (w 0) size fault row tv) (hT : TKX w nt T) (f : Nat → Int32) (s la : Nat) (hla : la ≤ 240) :
    ∀ (j z m : Nat) (kn : Nat → Int32) (st : Nat → Int64), la + 1 - m = j → j < z → m ≤ la + 1 →
    ∃ b kn' st', g_X3_fits_5 10 f 2 (nI np) T c0 SE size fault row (nI s) (nI la) z (cw w tv (nI s) nt np 0 m) (nI m) kn st = some (b, kn', st') ∧ ((b = 1 ∧ ∀ m', m ≤ m' → m' ≤ la → f m' = -1 ∨ f m' = cw w tv (nI s) nt np 0 m') ∨ (b = 0 ∧ ∃ m', m ≤ m' ∧ m' ≤ la ∧ f m' ≠ -1 ∧ f m' ≠ cw w tv (nI s) nt np 0 m'))
  | _, 0, _, _, _, _, h, _ => absurd h (Nat.not_lt_zero _)
  | j, z + 1, m, kn, st, h1, h2, h3 => by
    rw [g_X3_fits_5]
    unfold g_X3_fits_5b
    by_cases e : la < m
    · rw [if_pos (show nI la < nI m by simp (disch := omega) only [n_z1, n_z2, n_z3, n_z4, n_z5, n_z6, n_z7, n_z8, n_leL, n_leR, n_ltL, n_ltR, n_eqL, n_eqR, n_m1R, n_addL, n_addR, n_mulL, n_mulR, n_subR, n_subL, n_add, n_mul, n_neg, n_sub, n_le, n_lt, n_eq, nI_clamp, if_true, if_false, if_pos, if_neg, or_false, false_or, not_false_eq_true, not_true_eq_false]; omega)]
      exact ⟨1, kn, st, rfl, Or.inl ⟨rfl, fun m' a b => by omega⟩⟩
    · rw [if_neg (show ¬ nI la < nI m by simp (disch := omega) only [n_z1, n_z2, n_z3, n_z4, n_z5, n_z6, n_z7, n_z8, n_leL, n_leR, n_ltL, n_ltR, n_eqL, n_eqR, n_m1R, n_addL, n_addR, n_mulL, n_mulR, n_subR, n_subL, n_add, n_mul, n_neg, n_sub, n_le, n_lt, n_eq, nI_clamp, if_true, if_false, if_pos, if_neg, or_false, false_or, not_false_eq_true, not_true_eq_false]; omega), if_neg (show ¬ 240 < nI m by simp (disch := omega) only [n_z1, n_z2, n_z3, n_z4, n_z5, n_z6, n_z7, n_z8, n_leL, n_leR, n_ltL, n_ltR, n_eqL, n_eqR, n_m1R, n_addL, n_addR, n_mulL, n_mulR, n_subR, n_subL, n_add, n_mul, n_neg, n_sub, n_le, n_lt, n_eq, nI_clamp, if_true, if_false, if_pos, if_neg, or_false, false_or, not_false_eq_true, not_true_eq_false]; omega)]
      simp (disch := omega) only [n_z1, n_z2, n_z3, n_z4, n_z5, n_z6, n_z7, n_z8, n_leL, n_leR, n_ltL, n_ltR, n_eqL, n_eqR, n_m1R, n_addL, n_addR, n_mulL, n_mulR, n_subR, n_subL, n_add, n_mul, n_neg, n_sub, n_le, n_lt, n_eq, nI_clamp, if_true, if_false, if_pos, if_neg, or_false, false_or, not_false_eq_true, not_true_eq_false]
      have go : (f m = -1 ∨ f m = cw w tv (nI s) nt np 0 m) → ∃ b kn' st', g_X3_fits_43 10 f 2 (nI np) T c0 SE size fault row (nI s) (nI la) (g_X3_fits_5 10 f 2 (nI np) T c0 SE size fault row (nI s) (nI la) z) (cw w tv (nI s) nt np 0 m) (nI m) kn st = some (b, kn', st') ∧ ((b = 1 ∧ ∀ m', m ≤ m' → m' ≤ la → f m' = -1 ∨ f m' = cw w tv (nI s) nt np 0 m') ∨ (b = 0 ∧ ∃ m', m ≤ m' ∧ m' ≤ la ∧ f m' ≠ -1 ∧ f m' ≠ cw w tv (nI s) nt np 0 m')) := by
        intro hok
        unfold g_X3_fits_43 g_X3_fits_98 g_X7_size
        by_cases e2 : la ≤ m
        · rw [if_pos (show nI la ≤ nI m by simp (disch := omega) only [n_z1, n_z2, n_z3, n_z4, n_z5, n_z6, n_z7, n_z8, n_leL, n_leR, n_ltL, n_ltR, n_eqL, n_eqR, n_m1R, n_addL, n_addR, n_mulL, n_mulR, n_subR, n_subL, n_add, n_mul, n_neg, n_sub, n_le, n_lt, n_eq, nI_clamp, if_true, if_false, if_pos, if_neg, or_false, false_or, not_false_eq_true, not_true_eq_false]; omega), n_addR]
          obtain ⟨z, rfl⟩ : ∃ y, z = y + 1 := ⟨z - 1, by omega⟩
          rw [g_X3_fits_5]
          unfold g_X3_fits_5b
          rw [if_pos (show nI la < nI (m + 1) by simp (disch := omega) only [n_z1, n_z2, n_z3, n_z4, n_z5, n_z6, n_z7, n_z8, n_leL, n_leR, n_ltL, n_ltR, n_eqL, n_eqR, n_m1R, n_addL, n_addR, n_mulL, n_mulR, n_subR, n_subL, n_add, n_mul, n_neg, n_sub, n_le, n_lt, n_eq, nI_clamp, if_true, if_false, if_pos, if_neg, or_false, false_or, not_false_eq_true, not_true_eq_false]; omega)]
          refine ⟨1, kn, st, rfl, Or.inl ⟨rfl, fun m' a b => ?_⟩⟩
          rw [show m' = m by omega]; exact hok
        · rw [if_neg (show ¬ nI la ≤ nI m by simp (disch := omega) only [n_z1, n_z2, n_z3, n_z4, n_z5, n_z6, n_z7, n_z8, n_leL, n_leR, n_ltL, n_ltR, n_eqL, n_eqR, n_m1R, n_addL, n_addR, n_mulL, n_mulR, n_subR, n_subL, n_add, n_mul, n_neg, n_sub, n_le, n_lt, n_eq, nI_clamp, if_true, if_false, if_pos, if_neg, or_false, false_or, not_false_eq_true, not_true_eq_false]; omega), if_neg (show ¬ 240 ≤ nI m by simp (disch := omega) only [n_z1, n_z2, n_z3, n_z4, n_z5, n_z6, n_z7, n_z8, n_leL, n_leR, n_ltL, n_ltR, n_eqL, n_eqR, n_m1R, n_addL, n_addR, n_mulL, n_mulR, n_subR, n_subL, n_add, n_mul, n_neg, n_sub, n_le, n_lt, n_eq, nI_clamp, if_true, if_false, if_pos, if_neg, or_false, false_or, not_false_eq_true, not_true_eq_false]; omega), pb_some]
          obtain ⟨kn1, st1, q⟩ := x_together hL hnp hP hc hse hR hT (nI s) 0 m np (by omega) (Nat.le_refl np) (cw w tv (nI s) nt np 0 m) kn st
          have q' : g_X1_together 10 T 2 (nI np) c0 SE size fault row 0 (nI m) (cw w tv (nI s) nt np 0 m) (nI s) (nI np) kn st = _ := q
          rw [q', pb_some, hse 0 (by omega), n_addR]
          obtain ⟨b, kn2, st2, k1, k2⟩ := x_fits2 hL hnp hP hc hse hR hT f s la hla (j - 1) z (m + 1) kn1 st1 (by omega) (by omega) (by omega)
          refine ⟨b, kn2, st2, k1, ?_⟩
          rcases k2 with ⟨b1, b2⟩ | ⟨b1, m', b2, b3, b4⟩
          · refine Or.inl ⟨b1, fun m' a c => ?_⟩
            by_cases c3 : m' = m
            · rw [c3]; exact hok
            · exact b2 m' (by omega) c
          · exact Or.inr ⟨b1, m', by omega, b3, b4⟩
      by_cases c1 : f m = -1
      · rw [if_pos c1]; exact go (Or.inl c1)
      · rw [if_neg c1]
        by_cases c2 : f m = cw w tv (nI s) nt np 0 m
        · rw [if_pos c2]; exact go (Or.inr c2)
        · rw [if_neg c2]
          exact ⟨0, kn, st, rfl, Or.inr ⟨rfl, m, Nat.le_refl m, by omega, c1, c2⟩⟩
end
