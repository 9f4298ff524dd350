/-! THE DAY: the reference winds its clocks -/
/-- what the reference has wound, as far as a valley, a minute and a person -/
def CN (w : Nat → Int32) (tv : TVT) (sx : Int32) (nt np v m p : Nat) (C : Nat → Int32) : Prop := ∀ p', p' < np → ∀ m', m' < 240 → ∀ v', v' ≤ 1 → w (18 + p') = nI v' → (v' < v ∨ v' = v ∧ (m' < m ∨ m' = m ∧ p' < p)) → C (240 * p' + m') = ctv w tv sx nt np v' p' m'
def CK (w : Nat → Int32) (tv : TVT) (sx : Int32) (nt np v m : Nat) (C : Nat → Int32) : Prop := ∀ v', v' ≤ 1 → ∀ m', m' ≤ 240 → (v' < v ∨ v' = v ∧ m' ≤ m) → C (241 * v' + m') = cw w tv sx nt np v' m'
def TKM (w : Nat → Int32) (t : Nat) (T : Nat → Int32) : Prop := ∀ p, p < 5 → ∀ m, m < 240 → T (240 * p + m) = if tk w p m t = true then 1 else 0
def WOK (w : Nat → Int32) (tv : TVT) (sx : Int32) (nt np : Nat) (C N : Nat → Int32) : Prop := (∀ v, v ≤ 1 → ∀ m, m ≤ 240 → C (241 * v + m) = cw w tv sx nt np v m) ∧ (∀ p, p < np → ∀ m, m < 240 → ∀ v, v ≤ 1 → w (18 + p) = nI v → N (240 * p + m) = ctv w tv sx nt np v p m)
abbrev KW := Int32 → Int32 → Int32 → Int32 → Int32 → (Nat → Int32) → (Nat → Int32) → (Nat → Int32) → (Nat → Int32) → (Nat → Int32) → (Nat → Int32) → (Nat → Int64) → Option (Int32 × Int32 × Int32 × (Nat → Int32) × (Nat → Int32) × (Nat → Int32) × (Nat → Int32) × (Nat → Int32) × (Nat → Int32) × (Nat → Int64))
section
variable {w : Nat → Int32} {tv : TVT} {sx : Int32} {np nt : Nat} {R a b pl : Int32} {H W A : Nat → Int32}
theorem m_worth (hnp : np ≤ 5) (hP : PG w np) (hR : MRT R a A w tv) (p m : Nat) (hp : p < np) (hm : m < 240) (T : Nat → Int32) (hT : TKM w nt T) (cl sm0 : Int32) (st : Nat → Int64) : ∃ st', g_X11_worth a T w A (nI p) cl (nI m) sm0 R st = some (if tk w p m nt = true then vo w tv p m cl sm0 else 0, st') := by
  unfold g_X11_worth
  simp (disch := omega) only [n_z1, n_z2, n_z3, n_z4, n_z5, n_z6, n_z7, n_z8, n_leL, n_leR, n_ltL, n_ltR, n_eqL, n_eqR, n_m1R, n_addL, n_addR, n_mulL, n_mulR, n_subR, n_subL, n_add, n_mul, n_neg, n_sub, n_le, n_lt, n_eq, nI_clamp, if_true, if_false, if_pos, if_neg, or_false, false_or, not_false_eq_true, not_true_eq_false, hT p (by omega) m hm]
  by_cases e : tk w p m nt = true
  · rw [if_pos e, if_pos e, if_neg (by decide)]
    unfold vo
    rcases kind_cases (hP p hp).1 with e1 | e1 | e1 | e1 | e1 | e1 <;> rw [e1] <;> simp (disch := omega) only [n_z1, n_z2, n_z3, n_z4, n_z5, n_z6, n_z7, n_z8, n_leL, n_leR, n_ltL, n_ltR, n_eqL, n_eqR, n_m1R, n_addL, n_addR, n_mulL, n_mulR, n_subR, n_subL, n_add, n_mul, n_neg, n_sub, n_le, n_lt, n_eq, nI_clamp, if_true, if_false, if_pos, if_neg, or_false, false_or, not_false_eq_true, not_true_eq_false]
    · exact ⟨st, rfl⟩
    · exact ⟨st, rfl⟩
    · exact ⟨st, rfl⟩
    · split
      · exact ⟨st, rfl⟩
      · exact ⟨st, rfl⟩
    · rcases hR with ⟨h1, h2⟩ | ⟨h1, h2⟩
      · rw [h1, if_neg (by decide)]
        obtain ⟨v, f', h3, h4⟩ := h2 cl (nI m) sm0 (nI p) st
        rw [h3, pb_some, h4]
        simp only [lg_eq0]
        by_cases hv : v = 0
        · rw [if_pos hv, if_neg (by simp [hv])]
          exact ⟨f', rfl⟩
        · rw [if_neg hv, if_pos (by simp [hv])]
          exact ⟨f', rfl⟩
      · rw [h1, if_pos rfl, h2]
        exact ⟨st, rfl⟩
    · split
      · exact ⟨st, rfl⟩
      · exact ⟨st, rfl⟩
  · rw [if_neg e, if_neg e, if_pos rfl]
    exact ⟨st, rfl⟩
theorem wd16 (R : Int32) (C N : Nat → Int32) (S : Nat → Int64) : ∀ (k n j : Nat) (T : Nat → Int32), 1200 - j = k → k < n → j ≤ 1200 → (∀ i, i < j → T i = 0) → ∃ T', g_X11_winds_16 w sx n R (nI j) a b pl H W A C N T S = g_X11_winds_38 w sx zF R 0 a b pl H W A C N T' S ∧ ∀ i, i < 1200 → T' i = 0
  | _, 0, _, _, _, h, _, _ => absurd h (Nat.not_lt_zero _)
  | k, n + 1, j, T, h1, h2, h3, h4 => by
    rw [g_X11_winds_16]
    unfold g_X11_winds_16b
    by_cases e : 1200 ≤ j
    · simp (disch := omega) only [n_z1, n_z2, n_z3, n_z4, n_z5, n_z6, n_z7, n_z8, n_leL, n_leR, n_ltL, n_ltR, n_eqL, n_eqR, n_m1R, n_addL, n_addR, n_mulL, n_mulR, n_subR, n_subL, n_add, n_mul, n_neg, n_sub, n_le, n_lt, n_eq, nI_clamp, if_true, if_false, if_pos, if_neg, or_false, false_or, not_false_eq_true, not_true_eq_false]
      exact ⟨T, rfl, fun i hi => h4 i (by omega)⟩
    · simp (disch := omega) only [n_z1, n_z2, n_z3, n_z4, n_z5, n_z6, n_z7, n_z8, n_leL, n_leR, n_ltL, n_ltR, n_eqL, n_eqR, n_m1R, n_addL, n_addR, n_mulL, n_mulR, n_subR, n_subL, n_add, n_mul, n_neg, n_sub, n_le, n_lt, n_eq, nI_clamp, if_true, if_false, if_pos, if_neg, or_false, false_or, not_false_eq_true, not_true_eq_false]
      refine wd16 R C N S (k - 1) n (j + 1) _ (by omega) (by omega) (by omega) ?_
      intro i hi
      rw [upd_eq]
      by_cases e2 : i = j
      · rw [if_pos e2]
      · rw [if_neg e2]; exact h4 i (by omega)
theorem wd59 (R : Int32) (k38 : KW) (t p e : Nat) (ht : t < 16) (hp : p < 5) (hw1 : w (23 + t) = nI p) (he : w (55 + t) = nI e) (he2 : e ≤ 240) (C N : Nat → Int32) (S : Nat → Int64) : ∀ (k n m : Nat) (T : Nat → Int32), e - m = k → k < n → m ≤ 240 → ∃ T', g_X11_winds_59 w sx k38 n R (nI t) (nI m) a b pl H W A C N T S = k38 R (nI (t + 1)) a b pl H W A C N T' S ∧ ∀ i, T' i = if 240 * p + m ≤ i ∧ i < 240 * p + e then 1 else T i
  | _, 0, _, _, _, h, _ => absurd h (Nat.not_lt_zero _)
  | k, n + 1, m, T, h1, h2, h3 => by
    rw [g_X11_winds_59]
    unfold g_X11_winds_59b
    simp (disch := omega) only [n_z1, n_z2, n_z3, n_z4, n_z5, n_z6, n_z7, n_z8, n_leL, n_leR, n_ltL, n_ltR, n_eqL, n_eqR, n_m1R, n_addL, n_addR, n_mulL, n_mulR, n_subR, n_subL, n_add, n_mul, n_neg, n_sub, n_le, n_lt, n_eq, nI_clamp, if_true, if_false, if_pos, if_neg, or_false, false_or, not_false_eq_true, not_true_eq_false, hw1, he]
    by_cases e1 : e ≤ m
    · rw [if_pos e1]
      exact ⟨T, rfl, fun i => by rw [if_neg (by omega)]⟩
    · rw [if_neg e1]
      obtain ⟨T', q1, q2⟩ := wd59 R k38 t p e ht hp hw1 he he2 C N S (k - 1) n (m + 1) (upd T (240 * p + m) 1) (by omega) (by omega) (by omega)
      refine ⟨T', q1, fun i => ?_⟩
      rw [q2 i, upd_eq]
      by_cases e2 : i = 240 * p + m
      · rw [if_neg (by omega), if_pos e2, if_pos (by omega)]
      · by_cases e3 : 240 * p + m ≤ i ∧ i < 240 * p + e
        · rw [if_pos (by omega), if_pos e3]
        · rw [if_neg (by omega), if_neg e2, if_neg e3]
theorem wd38 (R : Int32) (hnp : np ≤ 5) (hnt : nt ≤ 16) (hw4 : w 4 = nI nt) (hG : TG w np nt) (C N : Nat → Int32) (S : Nat → Int64) : ∀ (k n t : Nat) (T : Nat → Int32), nt - t = k → k < n → t ≤ nt → TKM w t T → ∃ T', g_X11_winds_38 w sx n R (nI t) a b pl H W A C N T S = g_X11_winds_109 w sx zF R 0 a b pl H W A C N T' S ∧ TKM w nt T'
  | _, 0, _, _, _, h, _, _ => absurd h (Nat.not_lt_zero _)
  | k, n + 1, t, T, h1, h2, h3, h4 => by
    rw [g_X11_winds_38]
    unfold g_X11_winds_38b
    by_cases e : nt ≤ t
    · simp (disch := omega) only [n_z1, n_z2, n_z3, n_z4, n_z5, n_z6, n_z7, n_z8, n_leL, n_leR, n_ltL, n_ltR, n_eqL, n_eqR, n_m1R, n_addL, n_addR, n_mulL, n_mulR, n_subR, n_subL, n_add, n_mul, n_neg, n_sub, n_le, n_lt, n_eq, nI_clamp, if_true, if_false, if_pos, if_neg, or_false, false_or, not_false_eq_true, not_true_eq_false, hw4]
      have : t = nt := by omega
      subst this
      exact ⟨T, rfl, h4⟩
    · have hg := hG t (by omega)
      have g1 := tn_nI hg.1.1
      have g2 := tn_nI hg.2.1
      have g3 := tn_nI (x := w (55 + t)) (by omega)
      have l1 : tn (w (23 + t)) < 5 := by unfold tn; omega
      have l2 : tn (w (39 + t)) < tn (w (55 + t)) := by unfold tn; omega
      have l3 : tn (w (55 + t)) ≤ 240 := by unfold tn; omega
      simp (disch := omega) only [n_z1, n_z2, n_z3, n_z4, n_z5, n_z6, n_z7, n_z8, n_leL, n_leR, n_ltL, n_ltR, n_eqL, n_eqR, n_m1R, n_addL, n_addR, n_mulL, n_mulR, n_subR, n_subL, n_add, n_mul, n_neg, n_sub, n_le, n_lt, n_eq, nI_clamp, if_true, if_false, if_pos, if_neg, or_false, false_or, not_false_eq_true, not_true_eq_false, hw4]
      obtain ⟨T1, q1, q2⟩ := wd59 (sx := sx) (a := a) (b := b) (pl := pl) (H := H) (W := W) (A := A) R (g_X11_winds_38 w sx n) t _ _ (by omega) l1 g1 g3 l3 C N S _ zF (tn (w (39 + t))) T rfl (by show _ < 65536; omega) (by omega)
      rw [g2, q1]
      refine wd38 R hnp hnt hw4 hG C N S (k - 1) n (t + 1) T1 (by omega) (by omega) (by omega) ?_
      intro p hp m hm
      rw [q2, h4 p hp m hm, tk]
      by_cases e1 : tn (w (23 + t)) = p
      · subst e1
        by_cases e2 : tn (w (39 + t)) ≤ m ∧ m < tn (w (55 + t))
        · rw [if_pos (by omega), if_pos (by simp [e2.1, e2.2])]
        · rw [if_neg (by omega)]
          by_cases e3 : tn (w (39 + t)) ≤ m
          · simp [show ¬ m < tn (w (55 + t)) by omega]
          · simp [e3]
      · rw [if_neg (by omega)]
        simp [e1]
theorem wd157 (hnp : np ≤ 5) (hP : PG w np) (hw3 : w 3 = nI np) (hR : MRT R a A w tv) (k109 : KW) (k128 : Int32 → KW) (v m : Nat) (hv : v ≤ 1) (hm : m < 240) (T : Nat → Int32) (hT : TKM w nt T) (C : Nat → Int32) :
    ∀ (k n p : Nat) (N : Nat → Int32) (S : Nat → Int64), np - p = k → k < n → p ≤ np → CN w tv sx nt np v m p N →
    ∃ N' S', g_X11_winds_157 w sx k109 k128 n R (nI v) (nI m) (cw w tv sx nt np v m) (sm w tv sx nt v m (cw w tv sx nt np v m) p) (nI p) a b pl H W A C N T S = k128 R (nI v) (nI (m + 1)) a b pl H W A (upd C (241 * v + m + 1) (cw w tv sx nt np v (m + 1))) N' T S' ∧ CN w tv sx nt np v (m + 1) 0 N'
  | _, 0, _, _, _, _, h, _, _ => absurd h (Nat.not_lt_zero _)
  | k, n + 1, p, N, S, h1, h2, h3, h4 => by
    rw [g_X11_winds_157]
    unfold g_X11_winds_157b
    by_cases e : np ≤ p
    · simp (disch := omega) only [n_z1, n_z2, n_z3, n_z4, n_z5, n_z6, n_z7, n_z8, n_leL, n_leR, n_ltL, n_ltR, n_eqL, n_eqR, n_m1R, n_addL, n_addR, n_mulL, n_mulR, n_subR, n_subL, n_add, n_mul, n_neg, n_sub, n_le, n_lt, n_eq, nI_clamp, if_true, if_false, if_pos, if_neg, or_false, false_or, not_false_eq_true, not_true_eq_false, hw3]
      have : p = np := by omega
      subst this
      refine ⟨N, S, ?_, ?_⟩
      · unfold g_X11_winds_286
        have e2 : ∀ x : Int32, (if w 0 ≤ x then (w 0) else x) = mn (w 0) x := by
          intro x; unfold mn
          by_cases h : w 0 ≤ x
          · rw [if_pos h]
            by_cases h5 : w 0 < x
            · rw [if_pos h5]
            · rw [if_neg h5]; exact Int32.le_antisymm h (Int32.not_lt.mp h5)
          · rw [if_neg h, if_neg (fun h5 => h (Int32.le_of_lt h5))]
        simp (disch := omega) only [n_z1, n_z2, n_z3, n_z4, n_z5, n_z6, n_z7, n_z8, n_leL, n_leR, n_ltL, n_ltR, n_eqL, n_eqR, n_m1R, n_addL, n_addR, n_mulL, n_mulR, n_subR, n_subL, n_add, n_mul, n_neg, n_sub, n_le, n_lt, n_eq, nI_clamp, if_true, if_false, if_pos, if_neg, or_false, false_or, not_false_eq_true, not_true_eq_false]
        rw [cw, ← e2]
        by_cases h : w 0 ≤ sm w tv sx nt v m (cw w tv sx nt p v m) p
        · rw [if_pos h, if_pos h]
        · rw [if_neg h, if_neg h]
      · intro p' hp' m' hm' v' hv' hw' hlt
        exact h4 p' hp' m' hm' v' hv' hw' (by omega)
    · simp (disch := omega) only [n_z1, n_z2, n_z3, n_z4, n_z5, n_z6, n_z7, n_z8, n_leL, n_leR, n_ltL, n_ltR, n_eqL, n_eqR, n_m1R, n_addL, n_addR, n_mulL, n_mulR, n_subR, n_subL, n_add, n_mul, n_neg, n_sub, n_le, n_lt, n_eq, nI_clamp, if_true, if_false, if_pos, if_neg, or_false, false_or, not_false_eq_true, not_true_eq_false, hw3]
      obtain ⟨vp, hvp1, hvp⟩ : ∃ vp, vp ≤ 1 ∧ w (18 + p) = nI vp := by
        rcases valley_cases (hP p (by omega)).2 with e | e
        · exact ⟨0, by omega, e⟩
        · exact ⟨1, by omega, e⟩
      by_cases e1 : vp = v
      · subst e1
        rw [if_pos hvp]
        have key : ∀ (x : Int32) (S1 : Nat → Int64), x = ctv w tv sx nt np vp p m → sm w tv sx nt vp m (cw w tv sx nt np vp m) p + x = sm w tv sx nt vp m (cw w tv sx nt np vp m) (p + 1) → ∃ N' S', g_X11_winds_222 w sx k109 k128 (g_X11_winds_157 w sx k109 k128 n) R (nI vp) (nI m) (cw w tv sx nt np vp m) (sm w tv sx nt vp m (cw w tv sx nt np vp m) p) (nI p) (nI (240 * p + m)) x a b pl H W A C N T S1 = k128 R (nI vp) (nI (m + 1)) a b pl H W A (upd C (241 * vp + m + 1) (cw w tv sx nt np vp (m + 1))) N' T S' ∧ CN w tv sx nt np vp (m + 1) 0 N' := by
          intro x S1 hx1 hx2
          unfold g_X11_winds_222 g_X11_winds_242
          simp (disch := omega) only [n_z1, n_z2, n_z3, n_z4, n_z5, n_z6, n_z7, n_z8, n_leL, n_leR, n_ltL, n_ltR, n_eqL, n_eqR, n_m1R, n_addL, n_addR, n_mulL, n_mulR, n_subR, n_subL, n_add, n_mul, n_neg, n_sub, n_le, n_lt, n_eq, nI_clamp, if_true, if_false, if_pos, if_neg, or_false, false_or, not_false_eq_true, not_true_eq_false]
          rw [upd_eq, if_pos rfl, hx2]
          refine wd157 hnp hP hw3 hR k109 k128 vp m hv hm T hT C (k - 1) n (p + 1) _ S1 (by omega) (by omega) (by omega) ?_
          intro p' hp' m' hm' v' hv' hw' hlt
          rw [upd_eq]
          by_cases e2 : 240 * p' + m' = 240 * p + m
          · have e3 : p' = p := by omega
            have e4 : m' = m := by omega
            subst e3 e4
            rw [if_pos e2, hx1]
            have : nI v' = nI vp := hw'.symm.trans hvp
            rw [nI_eq (by omega) (by omega)] at this
            rw [this]
          · rw [if_neg e2]
            exact h4 p' hp' m' hm' v' hv' hw' (by omega)
        by_cases e2 : TB sx p = true
        · rw [if_pos ((bit_1 _ (by omega)).2 e2)]
          obtain ⟨S1, hS⟩ := m_worth hnp hP hR p m (by omega) hm T hT (cw w tv sx nt np vp m) (sm w tv sx nt vp m (cw w tv sx nt np vp m) p) S
          rw [hS, pb_some]
          refine key _ S1 ?_ ?_
          · unfold ctv
            by_cases e3 : tk w p m nt = true
            · rw [if_pos e3, if_pos ⟨e2, e3⟩]
            · rw [if_neg e3, if_neg (fun h => e3 h.2)]
          · rw [sm]
            by_cases e3 : tk w p m nt = true
            · rw [if_pos e3, if_pos ⟨e2, e3, hvp⟩]
            · rw [if_neg e3, if_neg (fun h => e3 h.2.1), Int32.add_zero]
        · rw [if_neg (fun h => e2 ((bit_1 _ (by omega)).1 h))]
          refine key _ S ?_ ?_
          · unfold ctv
            rw [if_neg (fun h => e2 h.1)]
          · rw [sm, if_neg (fun h => e2 h.1), Int32.add_zero]
      · have e2 : ¬ w (18 + p) = nI v := by
          rw [hvp, nI_eq (by omega) (by omega)]; exact e1
        rw [if_neg e2]
        unfold g_X11_winds_242
        simp (disch := omega) only [n_z1, n_z2, n_z3, n_z4, n_z5, n_z6, n_z7, n_z8, n_leL, n_leR, n_ltL, n_ltR, n_eqL, n_eqR, n_m1R, n_addL, n_addR, n_mulL, n_mulR, n_subR, n_subL, n_add, n_mul, n_neg, n_sub, n_le, n_lt, n_eq, nI_clamp, if_true, if_false, if_pos, if_neg, or_false, false_or, not_false_eq_true, not_true_eq_false]
        have e3 : sm w tv sx nt v m (cw w tv sx nt np v m) (p + 1) = sm w tv sx nt v m (cw w tv sx nt np v m) p := by
          rw [sm, if_neg (fun h => e2 h.2.2)]
        rw [← e3]
        refine wd157 hnp hP hw3 hR k109 k128 v m hv hm T hT C (k - 1) n (p + 1) N S (by omega) (by omega) (by omega) ?_
        intro p' hp' m' hm' v' hv' hw' hlt
        by_cases e4 : p' = p
        · subst e4
          have : nI v' = nI vp := hw'.symm.trans hvp
          rw [nI_eq (by omega) (by omega)] at this
          exact h4 p' hp' m' hm' v' hv' hw' (by omega)
        · exact h4 p' hp' m' hm' v' hv' hw' (by omega)
theorem wd128 (hnp : np ≤ 5) (hP : PG w np) (hw3 : w 3 = nI np) (hR : MRT R a A w tv) (k109 : KW) (v : Nat) (hv : v ≤ 1) (T : Nat → Int32) (hT : TKM w nt T) :
    ∀ (k n m : Nat) (C N : Nat → Int32) (S : Nat → Int64), 240 - m = k → k < n → m ≤ 240 → CK w tv sx nt np v m C → CN w tv sx nt np v m 0 N →
    ∃ C' N' S', g_X11_winds_128 w sx k109 n R (nI v) (nI m) a b pl H W A C N T S = k109 R (nI (v + 1)) a b pl H W A C' N' T S' ∧ CK w tv sx nt np v 240 C' ∧ CN w tv sx nt np (v + 1) 0 0 N'
  | _, 0, _, _, _, _, _, h, _, _, _ => absurd h (Nat.not_lt_zero _)
  | k, n + 1, m, C, N, S, h1, h2, h3, h4, h5 => by
    rw [g_X11_winds_128]
    unfold g_X11_winds_128b
    by_cases e : 240 ≤ m
    · simp (disch := omega) only [n_z1, n_z2, n_z3, n_z4, n_z5, n_z6, n_z7, n_z8, n_leL, n_leR, n_ltL, n_ltR, n_eqL, n_eqR, n_m1R, n_addL, n_addR, n_mulL, n_mulR, n_subR, n_subL, n_add, n_mul, n_neg, n_sub, n_le, n_lt, n_eq, nI_clamp, if_true, if_false, if_pos, if_neg, or_false, false_or, not_false_eq_true, not_true_eq_false]
      have : m = 240 := by omega
      subst this
      refine ⟨C, N, S, rfl, h4, fun p' hp' m' hm' v' hv' hw' hlt => h5 p' hp' m' hm' v' hv' hw' (by omega)⟩
    · simp (disch := omega) only [n_z1, n_z2, n_z3, n_z4, n_z5, n_z6, n_z7, n_z8, n_leL, n_leR, n_ltL, n_ltR, n_eqL, n_eqR, n_m1R, n_addL, n_addR, n_mulL, n_mulR, n_subR, n_subL, n_add, n_mul, n_neg, n_sub, n_le, n_lt, n_eq, nI_clamp, if_true, if_false, if_pos, if_neg, or_false, false_or, not_false_eq_true, not_true_eq_false]
      obtain ⟨N1, S1, q1, q2⟩ := wd157 (b := b) (pl := pl) (H := H) (W := W) (sx := sx) hnp hP hw3 hR k109 (g_X11_winds_128 w sx k109 n) v m hv (by omega) T hT C np zF 0 N S rfl (by show _ < 65536; omega) (by omega) h5
      rw [h4 v hv m h3 (by omega)]
      have q3 : g_X11_winds_157 w sx k109 (g_X11_winds_128 w sx k109 n) zF R (nI v) (nI m) (cw w tv sx nt np v m) 0 0 a b pl H W A C N T S = _ := q1
      rw [q3]
      refine wd128 hnp hP hw3 hR k109 v hv T hT (k - 1) n (m + 1) _ N1 S1 (by omega) (by omega) (by omega) ?_ q2
      intro v' hv' m' hm' hlt
      rw [upd_eq]
      by_cases e2 : 241 * v' + m' = 241 * v + m + 1
      · have e3 : v' = v := by omega
        have e4 : m' = m + 1 := by omega
        subst e3 e4
        rw [if_pos e2]
      · rw [if_neg e2]
        exact h4 v' hv' m' hm' (by omega)
theorem wd109 (hnp : np ≤ 5) (hP : PG w np) (hw3 : w 3 = nI np) (hR : MRT R a A w tv) (T : Nat → Int32) (hT : TKM w nt T) (C N : Nat → Int32) (S : Nat → Int64) :
    ∃ C' N' S', g_X11_winds_109 w sx zF R 0 a b pl H W A C N T S = some (a, b, pl, H, W, A, C', N', T, S') ∧ WOK w tv sx nt np C' N' := by
  obtain ⟨C1, N1, S1, a1, a2, a3⟩ := wd128 (b := b) (pl := pl) (H := H) (W := W) (sx := sx) hnp hP hw3 hR (g_X11_winds_109 w sx 65535) 0 (by omega) T hT 240 zF 0 (upd C 0 0) N S rfl (by decide) (by omega) (by
    intro v' hv' m' hm' hlt
    have e3 : v' = 0 := by omega
    have e4 : m' = 0 := by omega
    subst e3 e4
    rfl) (fun p' hp' m' hm' v' hv' hw' hlt => by omega)
  obtain ⟨C2, N2, S2, b1, b2, b3⟩ := wd128 (b := b) (pl := pl) (H := H) (W := W) (sx := sx) hnp hP hw3 hR (g_X11_winds_109 w sx 65534) 1 (by omega) T hT 240 zF 0 (upd C1 241 0) N1 S1 rfl (by decide) (by omega) (by
    intro v' hv' m' hm' hlt
    rw [upd_eq]
    by_cases e : v' = 1
    · have e4 : m' = 0 := by omega
      subst e e4
      rfl
    · have e3 : v' = 0 := by omega
      subst e3
      rw [if_neg (by omega)]
      exact a2 0 (by omega) m' hm' (by omega)) a3
  refine ⟨C2, N2, S2, ?_, fun v hv m hm => b2 v hv m hm (by omega), fun p hp m hm v hv hw' => b3 p hp m hm v hv hw' (by omega)⟩
  have q1 : g_X11_winds_109 w sx (65535 + 1) R (nI 0) a b pl H W A C N T S = g_X11_winds_128 w sx (g_X11_winds_109 w sx 65535) zF R (nI 0) (nI 0) a b pl H W A (upd C 0 0) N T S := by
    rw [g_X11_winds_109]
    unfold g_X11_winds_109b
    simp (disch := omega) only [n_z1, n_z2, n_z3, n_z4, n_z5, n_z6, n_z7, n_z8, n_leL, n_leR, n_ltL, n_ltR, n_eqL, n_eqR, n_m1R, n_addL, n_addR, n_mulL, n_mulR, n_subR, n_subL, n_add, n_mul, n_neg, n_sub, n_le, n_lt, n_eq, nI_clamp, if_true, if_false, if_pos, if_neg, or_false, false_or, not_false_eq_true, not_true_eq_false]
    rfl
  have q2 : g_X11_winds_109 w sx (65534 + 1) R (nI 1) a b pl H W A C1 N1 T S1 = g_X11_winds_128 w sx (g_X11_winds_109 w sx 65534) zF R (nI 1) (nI 0) a b pl H W A (upd C1 241 0) N1 T S1 := by
    rw [g_X11_winds_109]
    unfold g_X11_winds_109b
    simp (disch := omega) only [n_z1, n_z2, n_z3, n_z4, n_z5, n_z6, n_z7, n_z8, n_leL, n_leR, n_ltL, n_ltR, n_eqL, n_eqR, n_m1R, n_addL, n_addR, n_mulL, n_mulR, n_subR, n_subL, n_add, n_mul, n_neg, n_sub, n_le, n_lt, n_eq, nI_clamp, if_true, if_false, if_pos, if_neg, or_false, false_or, not_false_eq_true, not_true_eq_false]
    rfl
  have q3 : g_X11_winds_109 w sx (65533 + 1) R (nI 2) a b pl H W A C2 N2 T S2 = some (a, b, pl, H, W, A, C2, N2, T, S2) := by
    rw [g_X11_winds_109]
    unfold g_X11_winds_109b
    simp (disch := omega) only [n_z1, n_z2, n_z3, n_z4, n_z5, n_z6, n_z7, n_z8, n_leL, n_leR, n_ltL, n_ltR, n_eqL, n_eqR, n_m1R, n_addL, n_addR, n_mulL, n_mulR, n_subR, n_subL, n_add, n_mul, n_neg, n_sub, n_le, n_lt, n_eq, nI_clamp, if_true, if_false, if_pos, if_neg, or_false, false_or, not_false_eq_true, not_true_eq_false]
  exact q1.trans (a1.trans (q2.trans (b1.trans q3)))
theorem m_winds {c row : Nat → Int32} {L : Nat} {size fault : Int32} (hnp : np ≤ 5) (hnt : nt ≤ 16) (hw3 : w 3 = nI np) (hw4 : w 4 = nI nt) (hw : w 7 = nI L) (hf : ∀ j, j < L → w (115 + j) = c j) (hT : TXT c L) (hP : PG w np) (hG : TG w np nt) (hR : RT c L (w 2) (w 0) size fault row tv)
    (sx a b pl : Int32) (H W A C N T : Nat → Int32) (S : Nat → Int64) : ∃ a' b' pl' H' W' A' C' N' T' S', g_X11_winds w sx a b pl H W A C N T S = some (a', b', pl', H', W', A', C', N', T', S') ∧ WOK w tv sx nt np C' N' := by
  obtain ⟨a', b', p', H', W', A', h1, h2⟩ := m_rule hw hf hT hR a b pl H W A
  unfold g_X11_winds
  rw [h1, pb_some]
  dsimp only
  have key : ∀ R, MRT R a' A' w tv → ∃ a'' b'' pl'' H'' W'' A'' C' N' T' S', g_X11_winds_13 w sx R a' b' p' H' W' A' C N T S = some (a'', b'', pl'', H'', W'', A'', C', N', T', S') ∧ WOK w tv sx nt np C' N' := by
    intro R hR
    unfold g_X11_winds_13
    obtain ⟨T1, q1, q2⟩ := wd16 (w := w) (sx := sx) (a := a') (b := b') (pl := p') (H := H') (W := W') (A := A') R C N S 1200 zF 0 T rfl (by decide) (by omega) (fun i h => by omega)
    have q1' : g_X11_winds_16 w sx zF R 0 a' b' p' H' W' A' C N T S = _ := q1
    obtain ⟨T2, q3, q4⟩ := wd38 (sx := sx) (a := a') (b := b') (pl := p') (H := H') (W := W') (A := A') R hnp hnt hw4 hG C N S nt zF 0 T1 rfl (by show _ < 65536; omega) (by omega) (fun p hp m hm => by rw [q2 _ (by omega)]; rfl)
    have q3' : g_X11_winds_38 w sx zF R 0 a' b' p' H' W' A' C N T1 S = _ := q3
    obtain ⟨C', N', S', q5, q6⟩ := wd109 (b := b') (pl := p') (H := H') (W := W') (sx := sx) hnp hP hw3 hR T2 q4 C N S
    exact ⟨_, _, _, _, _, _, C', N', T2, S', by rw [q1', q3', q5], q6⟩
  by_cases e : fault = -1
  · rw [if_pos e] at h2 ⊢
    exact key 1 h2
  · rw [if_neg e] at h2 ⊢
    exact key 0 h2
end
