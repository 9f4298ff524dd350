/-! THE RULE: the reference's two stacks: one step each -/
def PT (c : Nat → Int32) (L : Nat) (E : List Int32) : Prop := ∃ q', PS c L 0 0 0 E q' ∧ ah c L q' = -1
def PX (c : Nat → Int32) (L fl : Nat) : Prop := PF c L 0 0 0 fl ∨ ∃ E q', PS c L 0 0 0 E q' ∧ ah c L q' ≠ -1 ∧ fl = 10 * sk c L q' + 1
def RX (c : Nat → Int32) (L : Nat) (size fault : Int32) (row : Nat → Int32) : Prop :=
  (fault = -1 ∧ ∃ E, PT c L E ∧ E.length ≤ L ∧ size = nI E.length ∧ Stk row E) ∨ (∃ fl, PX c L fl ∧ fault = nI fl ∧ fl < 1000)
section
variable {f c : Nat → Int32} {L : Nat}
theorem x_refresh (hf : ∀ j, j < L → f j = c j) (hT : TXT c L) (s p φ g : Int32) (row : Nat → Int32) (hg : g ≠ 0) : ∃ size place fault row', g_X8_refresh 40 1 (nI L) f s p φ g row = some (size, place, fault, 0, row') ∧ RX c L size fault row' := by
  have hL := hT.1
  unfold g_X8_refresh
  rw [if_neg hg]
  rcases (x_live hf hT 128).1 0 0 0 [] row (by omega) (by omega) (by omega) (Nat.le_refl _) trivial (by omega) with ⟨E, q', row', g1, g2, g3⟩ | ⟨fl, p', sz, row', g1, g2, g3⟩
  · rw [List.append_nil] at g2 g3
    have g4 := ps_len hT g1
    have g5 := g4.2.2 (by omega)
    have e : g_X8_rec 40 1 (nI L) f 128 0 0 0 0 0 (-1) row = some (nI E.length, nI q', -1, row') := g3
    rw [e]
    simp only [pb_some, x_ahead hf hL (show q' < 1000 by omega), x_stop]
    have g6 := sk_le c L _ q' (Nat.le_refl _) g5
    by_cases e2 : ah c L q' = -1
    · rw [if_pos e2]
      exact ⟨_, _, _, _, rfl, Or.inl ⟨rfl, E, ⟨q', g1, e2⟩, by omega, rfl, g2⟩⟩
    · rw [if_neg e2]
      refine ⟨_, _, _, _, rfl, Or.inr ⟨10 * sk c L q' + 1, Or.inr ⟨E, q', g1, e2, rfl⟩, ?_, by omega⟩⟩
      simp (disch := omega) only [n_z1, n_z2, n_z3, n_z4, n_z5, n_z6, n_z7, n_z8, n_leL, n_leR, n_ltL, n_ltR, n_eqL, n_eqR, n_m1R, n_addL, n_addR, n_mulL, n_mulR, n_subR, n_subL, n_add, n_mul, n_neg, n_sub, n_le, n_lt, n_eq, nI_clamp, if_true, if_false, if_pos, if_neg, or_false, false_or, not_false_eq_true, not_true_eq_false]
  · have g4 := pf_le hT g1 (by omega)
    have e : g_X8_rec 40 1 (nI L) f 128 0 0 0 0 0 (-1) row = some (sz, nI p', nI fl, row') := g3
    rw [e]
    simp only [pb_some, x_ahead hf hL (show p' < 1000 by omega), x_stopd (nf_ne (show fl < 1000 by omega))]
    refine ⟨sz, nI (sk c L p'), nI fl, row', ?_, Or.inr ⟨fl, Or.inl g1, rfl, by omega⟩⟩
    rw [ite_self]
end
def hN (x : Int32) : Nat := if x = 40 then 0 else if rkN x ≤ 4 then rkN x + 1 else 6
theorem m_holds (x : Int32) : g_X11_holds x = some (nI (hN x)) := by
  unfold g_X11_holds g_X11_holds_48 g_X11_holds_64 g_X11_holds_80 hN rkN
  by_cases h1 : x = 38
  · subst h1; decide
  by_cases h2 : x = 42
  · subst h2; decide
  by_cases h3 : x = 43
  · subst h3; decide
  by_cases h4 : x = 45
  · subst h4; decide
  by_cases h5 : x = 47
  · subst h5; decide
  by_cases h6 : x = 60
  · subst h6; decide
  by_cases h7 : x = 61
  · subst h7; decide
  by_cases h8 : x = 62
  · subst h8; decide
  by_cases h9 : x = 124
  · subst h9; decide
  by_cases h10 : x = 40
  · subst h10; decide
  simp [h1, h2, h3, h4, h5, h6, h7, h8, h9, h10]
  rfl
theorem hN_le (x : Int32) : hN x ≤ 6 := by
  unfold hN
  have := rkN_le x
  split
  · omega
  · split <;> omega
theorem m_isFigure (x : Int32) : g_X11_isFigure x = some (if isDg x then 1 else 0) := by
  unfold g_X11_isFigure
  rw [p_in]
  have e : (if (48 : Int64).toInt ≤ x.toInt ∧ x.toInt ≤ (57 : Int64).toInt then (1 : Int32) else 0) = if isDg x then 1 else 0 := rfl
  rw [e, pb_some]
  by_cases h : isDg x
  · rw [if_pos h]; rfl
  · rw [if_neg h]; rfl
theorem m_isName (x : Int32) : g_X11_isName x = some (if nmN x = 9 then 0 else 1) := by
  unfold g_X11_isName g_X11_isName_36 nmN
  by_cases h1 : x = 99
  · subst h1; decide
  by_cases h2 : x = 115
  · subst h2; decide
  by_cases h3 : x = 111
  · subst h3; decide
  by_cases h4 : x = 112
  · subst h4; decide
  by_cases h5 : x = 98
  · subst h5; decide
  by_cases h6 : x = 102
  · subst h6; decide
  simp [h1, h2, h3, h4, h5, h6]
/-- the waiting signs that hold so tightly are done -/
def fls (t : Nat) : List Int32 → List Int32 → List Int32 × List Int32
  | [], A => ([], A)
  | x :: S, A => if t ≤ hN x then fls t S (-x :: A) else (x :: S, A)
def tLt (t : Nat) : List Int32 → Prop
  | [] => True
  | x :: _ => hN x < t
theorem fls_top {t : Nat} {S : List Int32} (h : tLt t S) (A : List Int32) : fls t S A = (S, A) := by
  cases S with
  | nil => rfl
  | cons x S =>
    have h : hN x < t := h
    rw [fls, if_neg (by omega)]
theorem fls_two {t t' : Nat} (h : t ≤ t') : ∀ (S A : List Int32), fls t (fls t' S A).1 (fls t' S A).2 = fls t S A
  | [], A => rfl
  | x :: S, A => by
    by_cases e : t' ≤ hN x
    · rw [fls, if_pos e, fls_two h S (-x :: A)]
      conv => rhs; rw [fls, if_pos (by omega)]
    · rw [fls, if_neg e]
theorem fls_len (t : Nat) : ∀ (S A : List Int32), (fls t S A).1.length + (fls t S A).2.length = S.length + A.length
  | [], A => rfl
  | x :: S, A => by
    rw [fls]
    split
    · rw [fls_len t S, List.length_cons, List.length_cons]; omega
    · rfl
theorem m_does {W : Nat → Int32} (t : Nat) (ht : t < 10) : ∀ (S A : List Int32) (T : Nat → Int32) (n : Nat), S.length < n → S.length + A.length < 80 → Stk W S → Stk T A →
    ∃ T', g_X11_does_0 W (nI t) n (nI A.length) (nI S.length) T = some (nI (fls t S A).2.length, nI (fls t S A).1.length, T') ∧ Stk W (fls t S A).1 ∧ Stk T' (fls t S A).2
  | S, A, T, 0, h, _, _, _ => absurd h (Nat.not_lt_zero _)
  | [], A, T, n + 1, h1, h2, h3, h4 => by
    rw [g_X11_does_0]
    unfold g_X11_does_0b
    rw [if_pos (by decide)]
    exact ⟨T, rfl, h3, h4⟩
  | x :: S, A, T, n + 1, h1, h2, h3, h4 => by
    rw [List.length_cons] at h1 h2
    have hx := hN_le x
    rw [g_X11_does_0]
    unfold g_X11_does_0b
    rw [List.length_cons]
    simp (disch := omega) only [n_z1, n_z2, n_z3, n_z4, n_z5, n_z6, n_z7, n_z8, n_leL, n_leR, n_ltL, n_ltR, n_eqL, n_eqR, n_m1R, n_addL, n_addR, n_mulL, n_mulR, n_subR, n_subL, n_add, n_mul, n_neg, n_sub, n_le, n_lt, n_eq, nI_clamp, if_true, if_false, if_pos, if_neg, or_false, false_or, not_false_eq_true, not_true_eq_false, h3.1, m_holds, pb_some, Nat.add_sub_cancel]
    rw [fls]
    by_cases e : t ≤ hN x
    · rw [if_neg (by omega), if_pos e]
      obtain ⟨T', k1, k2, k3⟩ := m_does (W := W) t ht S (-x :: A) (upd T A.length (-x)) n (by omega) (by rw [List.length_cons]; omega) h3.2 (stk_push _ h4)
      exact ⟨T', k1, k2, k3⟩
    · rw [if_pos (by omega), if_neg e]
      exact ⟨T, by rw [List.length_cons], h3, h4⟩
