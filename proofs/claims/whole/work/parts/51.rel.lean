/-! THE RELATION: the reference's row of numbers, and the class's rows -/
/-- what the row of numbers may hold -/
def RG (w : Nat → Int32) (np nt nd ns nr : Nat) : Prop :=
  (np ≤ 5 ∧ nt ≤ 16 ∧ nd ≤ 8 ∧ ns ≤ 10 ∧ nr ≤ 40) ∧ (w 3 = nI np ∧ w 4 = nI nt ∧ w 5 = nI nd ∧ w 6 = nI ns ∧ w 7 = nI nr) ∧
  ((1 ≤ (w 0).toInt ∧ (w 0).toInt ≤ 4) ∧ (0 ≤ (w 1).toInt ∧ (w 1).toInt ≤ 1) ∧ (0 ≤ (w 2).toInt ∧ (w 2).toInt ≤ 240)) ∧
  ((0 ≤ (w 8).toInt ∧ (w 8).toInt ≤ 20) ∧ (0 ≤ (w 9).toInt ∧ (w 9).toInt ≤ 20) ∧ (-99 ≤ (w 10).toInt ∧ (w 10).toInt ≤ 99) ∧ (-99 ≤ (w 11).toInt ∧ (w 11).toInt ≤ 99) ∧ (0 ≤ (w 12).toInt ∧ (w 12).toInt ≤ 99)) ∧
  (∀ p, p < np → (0 ≤ (w (13 + p)).toInt ∧ (w (13 + p)).toInt ≤ 5) ∧ (0 ≤ (w (18 + p)).toInt ∧ (w (18 + p)).toInt ≤ 1)) ∧
  (∀ t, t < nt → (0 ≤ (w (23 + t)).toInt ∧ (w (23 + t)).toInt < np) ∧ (0 ≤ (w (39 + t)).toInt ∧ (w (39 + t)).toInt < (w (55 + t)).toInt ∧ (w (55 + t)).toInt ≤ 240)) ∧
  (∀ d, d < nd → (0 ≤ (w (71 + d)).toInt ∧ (w (71 + d)).toInt ≤ 99) ∧ (0 ≤ (w (79 + d)).toInt ∧ (w (79 + d)).toInt ≤ 99) ∧ (-99 ≤ (w (87 + d)).toInt ∧ (w (87 + d)).toInt ≤ 99)) ∧
  (∀ k, k < ns → (0 ≤ (w (95 + k)).toInt ∧ (w (95 + k)).toInt ≤ 240) ∧ (0 ≤ (w (105 + k)).toInt ∧ (w (105 + k)).toInt ≤ 999)) ∧
  (∀ r, r < nr → 0 ≤ (w (115 + r)).toInt ∧ (w (115 + r)).toInt ≤ 127)
/-- the class's rows hold the same -/
def RC (np nt nd ns nr : Nat) (s0 s1 s2 s3 s4 : Int32) (c0 c1 c2 c3 c4 se sk : Nat → Int32) (w : Nat → Int32) : Prop :=
  (s0 = nI np ∧ s1 = nI nt ∧ s2 = nI nd ∧ s3 = nI ns ∧ s4 = nI nr) ∧ (∀ j, j < 3 → se j = w j) ∧ (∀ j, j < 5 → sk j = w (8 + j)) ∧
  (∀ p, p < np → c0 (2 * p) = w (13 + p) ∧ c0 (2 * p + 1) = w (18 + p)) ∧
  (∀ t, t < nt → c1 (3 * t) = w (23 + t) ∧ c1 (3 * t + 1) = w (39 + t) ∧ c1 (3 * t + 2) = w (55 + t)) ∧
  (∀ d, d < nd → c2 (3 * d) = w (71 + d) ∧ c2 (3 * d + 1) = w (79 + d) ∧ c2 (3 * d + 2) = w (87 + d)) ∧
  (∀ k, k < ns → c3 (2 * k) = w (95 + k) ∧ c3 (2 * k + 1) = w (105 + k)) ∧
  (∀ r, r < nr → c4 r = w (115 + r))
def RS (s0 s1 s2 s3 s4 : Int32) (c0 c1 c2 c3 c4 se sk : Nat → Int32) (w : Nat → Int32) : Prop := ∃ np nt nd ns nr : Nat, RG w np nt nd ns nr ∧ RC np nt nd ns nr s0 s1 s2 s3 s4 c0 c1 c2 c3 c4 se sk w
theorem upd_eq (f : Nat → Int32) (k : Nat) (x : Int32) (j : Nat) : upd f k x j = if j = k then x else f j := rfl
theorem rs_put {s0 s1 s2 s3 s4 : Int32} {c0 c1 c2 c3 c4 se sk w : Nat → Int32} (h : RS s0 s1 s2 s3 s4 c0 c1 c2 c3 c4 se sk w) (k : Nat) (x : Int32) (hk : k < 3) (hx : (k = 0 → 1 ≤ x.toInt ∧ x.toInt ≤ 4) ∧ (k = 1 → 0 ≤ x.toInt ∧ x.toInt ≤ 1) ∧ (k = 2 → 0 ≤ x.toInt ∧ x.toInt ≤ 240)) : RS s0 s1 s2 s3 s4 c0 c1 c2 c3 c4 (upd se k x) sk (upd w k x) := by
  obtain ⟨np, nt, nd, ns, nr, ⟨g1, g2, g3, g4, g5, g6, g7, g8, g9⟩, ⟨r1, r2, r3, r4, r5, r6, r7, r8⟩⟩ := h
  refine ⟨np, nt, nd, ns, nr, ⟨g1, ?_, ?_, ?_, ?_, ?_, ?_, ?_, ?_⟩, ⟨r1, ?_, ?_, ?_, ?_, ?_, ?_, ?_⟩⟩
  · simp (disch := omega) only [upd_eq, if_pos, if_neg]; exact g2
  · rcases (show k = 0 ∨ k = 1 ∨ k = 2 by omega) with rfl | rfl | rfl
    · simp (disch := omega) only [upd_eq, if_pos, if_neg]; exact ⟨hx.1 rfl, g3.2⟩
    · simp (disch := omega) only [upd_eq, if_pos, if_neg]; exact ⟨g3.1, hx.2.1 rfl, g3.2.2⟩
    · simp (disch := omega) only [upd_eq, if_pos, if_neg]; exact ⟨g3.1, g3.2.1, hx.2.2 rfl⟩
  · simp (disch := omega) only [upd_eq, if_pos, if_neg]; exact g4
  · intro t ht; have q := g5 t ht; simp (disch := omega) only [upd_eq, if_pos, if_neg]; exact q
  · intro t ht; have q := g6 t ht; simp (disch := omega) only [upd_eq, if_pos, if_neg]; exact q
  · intro t ht; have q := g7 t ht; simp (disch := omega) only [upd_eq, if_pos, if_neg]; exact q
  · intro t ht; have q := g8 t ht; simp (disch := omega) only [upd_eq, if_pos, if_neg]; exact q
  · intro t ht; have q := g9 t ht; simp (disch := omega) only [upd_eq, if_pos, if_neg]; exact q
  · intro j hj; have q := r2 j hj; simp only [upd_eq]; by_cases e : j = k
    · rw [if_pos e, if_pos e]
    · rw [if_neg e, if_neg e]; exact q
  · intro j hj; have q := r3 j hj; simp (disch := omega) only [upd_eq, if_pos, if_neg]; exact q
  · intro t ht; have q := r4 t ht; simp (disch := omega) only [upd_eq, if_pos, if_neg]; exact q
  · intro t ht; have q := r5 t ht; simp (disch := omega) only [upd_eq, if_pos, if_neg]; exact q
  · intro t ht; have q := r6 t ht; simp (disch := omega) only [upd_eq, if_pos, if_neg]; exact q
  · intro t ht; have q := r7 t ht; simp (disch := omega) only [upd_eq, if_pos, if_neg]; exact q
  · intro t ht; have q := r8 t ht; simp (disch := omega) only [upd_eq, if_pos, if_neg]; exact q
