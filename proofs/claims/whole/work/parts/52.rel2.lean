section RS2
variable {s0 s1 s2 s3 s4 : Int32} {c0 c1 c2 c3 c4 se sk w : Nat → Int32}
theorem rs_person {a b : Int32} (h : RS s0 s1 s2 s3 s4 c0 c1 c2 c3 c4 se sk w) {n : Nat} (hn : s0 = nI n) (hlt : n < 5) (ha : 0 ≤ a.toInt ∧ a.toInt ≤ 5) (hb : 0 ≤ b.toInt ∧ b.toInt ≤ 1) : RS (nI (n + 1)) s1 s2 s3 s4 (upd (upd c0 (2 * n) a) (2 * n + 1) b) c1 c2 c3 c4 se sk (upd (upd (upd w (13 + n) a) (18 + n) b) 3 (nI (n + 1))) := by
  obtain ⟨np, nt, nd, ns, nr, ⟨g1, g2, g3, g4, g5, g6, g7, g8, g9⟩, ⟨r1, r2, r3, r4, r5, r6, r7, r8⟩⟩ := h
  have e : np = n := (nI_eq (by omega) (by omega)).mp (r1.1.symm.trans hn)
  subst e
  refine ⟨np + 1, nt, nd, ns, nr, ⟨by omega, ?_, ?_, ?_, ?_, ?_, ?_, ?_, ?_⟩, ⟨⟨rfl, r1.2.1, r1.2.2.1, r1.2.2.2.1, r1.2.2.2.2⟩, ?_, ?_, ?_, ?_, ?_, ?_, ?_⟩⟩
  · refine ⟨?_, ?_, ?_, ?_, ?_⟩ <;> simp (disch := omega) only [upd_eq, if_pos, if_neg] <;> first | rfl | exact g2.1 | exact g2.2.1 | exact g2.2.2.1 | exact g2.2.2.2.1 | exact g2.2.2.2.2
  · simp (disch := omega) only [upd_eq, if_pos, if_neg]; exact g3
  · simp (disch := omega) only [upd_eq, if_pos, if_neg]; exact g4
  · intro t ht
    by_cases hh : t = np
    · subst hh; simp (disch := omega) only [upd_eq, if_pos, if_neg]; exact ⟨ha, hb⟩
    · have q := g5 t (by omega); simp (disch := omega) only [upd_eq, if_pos, if_neg]; exact q
  · intro t ht; have q := g6 t ht; simp (disch := omega) only [upd_eq, if_pos, if_neg]; exact ⟨⟨q.1.1, by omega⟩, q.2⟩
  · intro t ht; have q := g7 t ht; simp (disch := omega) only [upd_eq, if_pos, if_neg]; exact q
  · intro t ht; have q := g8 t ht; simp (disch := omega) only [upd_eq, if_pos, if_neg]; exact q
  · intro t ht; have q := g9 t ht; simp (disch := omega) only [upd_eq, if_pos, if_neg]; exact q
  · intro j hj; have q := r2 j hj; simp (disch := omega) only [upd_eq, if_pos, if_neg]; exact q
  · intro j hj; have q := r3 j hj; simp (disch := omega) only [upd_eq, if_pos, if_neg]; exact q
  · intro t ht
    by_cases hh : t = np
    · subst hh; simp (disch := omega) only [upd_eq, if_pos, if_neg]; exact ⟨rfl, rfl⟩
    · have q := r4 t (by omega); simp (disch := omega) only [upd_eq, if_pos, if_neg]; exact q
  · intro t ht; have q := r5 t ht; simp (disch := omega) only [upd_eq, if_pos, if_neg]; exact q
  · intro t ht; have q := r6 t ht; simp (disch := omega) only [upd_eq, if_pos, if_neg]; exact q
  · intro t ht; have q := r7 t ht; simp (disch := omega) only [upd_eq, if_pos, if_neg]; exact q
  · intro t ht; have q := r8 t ht; simp (disch := omega) only [upd_eq, if_pos, if_neg]; exact q
theorem rs_talk {a b c : Int32} (h : RS s0 s1 s2 s3 s4 c0 c1 c2 c3 c4 se sk w) {n : Nat} (hn : s1 = nI n) (hlt : n < 16) (ha : 0 ≤ a.toInt ∧ a.toInt < s0.toInt) (hb : 0 ≤ b.toInt ∧ b.toInt < c.toInt ∧ c.toInt ≤ 240) : RS s0 (nI (n + 1)) s2 s3 s4 c0 (upd (upd (upd c1 (3 * n) a) (3 * n + 1) b) (3 * n + 2) c) c2 c3 c4 se sk (upd (upd (upd (upd w (23 + n) a) (39 + n) b) (55 + n) c) 4 (nI (n + 1))) := by
  obtain ⟨np, nt, nd, ns, nr, ⟨g1, g2, g3, g4, g5, g6, g7, g8, g9⟩, ⟨r1, r2, r3, r4, r5, r6, r7, r8⟩⟩ := h
  have e : nt = n := (nI_eq (by omega) (by omega)).mp (r1.2.1.symm.trans hn)
  subst e
  rw [r1.1, nI_toInt (by omega)] at ha
  refine ⟨np, nt + 1, nd, ns, nr, ⟨by omega, ?_, ?_, ?_, ?_, ?_, ?_, ?_, ?_⟩, ⟨⟨r1.1, rfl, r1.2.2.1, r1.2.2.2.1, r1.2.2.2.2⟩, ?_, ?_, ?_, ?_, ?_, ?_, ?_⟩⟩
  · refine ⟨?_, ?_, ?_, ?_, ?_⟩ <;> simp (disch := omega) only [upd_eq, if_pos, if_neg] <;> first | rfl | exact g2.1 | exact g2.2.1 | exact g2.2.2.1 | exact g2.2.2.2.1 | exact g2.2.2.2.2
  · simp (disch := omega) only [upd_eq, if_pos, if_neg]; exact g3
  · simp (disch := omega) only [upd_eq, if_pos, if_neg]; exact g4
  · intro t ht; have q := g5 t ht; simp (disch := omega) only [upd_eq, if_pos, if_neg]; exact q
  · intro t ht
    by_cases hh : t = nt
    · subst hh; simp (disch := omega) only [upd_eq, if_pos, if_neg]; exact ⟨ha, hb⟩
    · have q := g6 t (by omega); simp (disch := omega) only [upd_eq, if_pos, if_neg]; exact q
  · intro t ht; have q := g7 t ht; simp (disch := omega) only [upd_eq, if_pos, if_neg]; exact q
  · intro t ht; have q := g8 t ht; simp (disch := omega) only [upd_eq, if_pos, if_neg]; exact q
  · intro t ht; have q := g9 t ht; simp (disch := omega) only [upd_eq, if_pos, if_neg]; exact q
  · intro j hj; have q := r2 j hj; simp (disch := omega) only [upd_eq, if_pos, if_neg]; exact q
  · intro j hj; have q := r3 j hj; simp (disch := omega) only [upd_eq, if_pos, if_neg]; exact q
  · intro t ht; have q := r4 t ht; simp (disch := omega) only [upd_eq, if_pos, if_neg]; exact q
  · intro t ht
    by_cases hh : t = nt
    · subst hh; simp (disch := omega) only [upd_eq, if_pos, if_neg]; exact ⟨rfl, rfl, rfl⟩
    · have q := r5 t (by omega); simp (disch := omega) only [upd_eq, if_pos, if_neg]; exact q
  · intro t ht; have q := r6 t ht; simp (disch := omega) only [upd_eq, if_pos, if_neg]; exact q
  · intro t ht; have q := r7 t ht; simp (disch := omega) only [upd_eq, if_pos, if_neg]; exact q
  · intro t ht; have q := r8 t ht; simp (disch := omega) only [upd_eq, if_pos, if_neg]; exact q
theorem rs_due {a b c : Int32} (h : RS s0 s1 s2 s3 s4 c0 c1 c2 c3 c4 se sk w) {n : Nat} (hn : s2 = nI n) (hlt : n < 8) (ha : 0 ≤ a.toInt ∧ a.toInt ≤ 99) (hb : 0 ≤ b.toInt ∧ b.toInt ≤ 99) (hc : -99 ≤ c.toInt ∧ c.toInt ≤ 99) : RS s0 s1 (nI (n + 1)) s3 s4 c0 c1 (upd (upd (upd c2 (3 * n) a) (3 * n + 1) b) (3 * n + 2) c) c3 c4 se sk (upd (upd (upd (upd w (71 + n) a) (79 + n) b) (87 + n) c) 5 (nI (n + 1))) := by
  obtain ⟨np, nt, nd, ns, nr, ⟨g1, g2, g3, g4, g5, g6, g7, g8, g9⟩, ⟨r1, r2, r3, r4, r5, r6, r7, r8⟩⟩ := h
  have e : nd = n := (nI_eq (by omega) (by omega)).mp (r1.2.2.1.symm.trans hn)
  subst e
  refine ⟨np, nt, nd + 1, ns, nr, ⟨by omega, ?_, ?_, ?_, ?_, ?_, ?_, ?_, ?_⟩, ⟨⟨r1.1, r1.2.1, rfl, r1.2.2.2.1, r1.2.2.2.2⟩, ?_, ?_, ?_, ?_, ?_, ?_, ?_⟩⟩
  · refine ⟨?_, ?_, ?_, ?_, ?_⟩ <;> simp (disch := omega) only [upd_eq, if_pos, if_neg] <;> first | rfl | exact g2.1 | exact g2.2.1 | exact g2.2.2.1 | exact g2.2.2.2.1 | exact g2.2.2.2.2
  · simp (disch := omega) only [upd_eq, if_pos, if_neg]; exact g3
  · simp (disch := omega) only [upd_eq, if_pos, if_neg]; exact g4
  · intro t ht; have q := g5 t ht; simp (disch := omega) only [upd_eq, if_pos, if_neg]; exact q
  · intro t ht; have q := g6 t ht; simp (disch := omega) only [upd_eq, if_pos, if_neg]; exact q
  · intro t ht
    by_cases hh : t = nd
    · subst hh; simp (disch := omega) only [upd_eq, if_pos, if_neg]; exact ⟨ha, hb, hc⟩
    · have q := g7 t (by omega); simp (disch := omega) only [upd_eq, if_pos, if_neg]; exact q
  · intro t ht; have q := g8 t ht; simp (disch := omega) only [upd_eq, if_pos, if_neg]; exact q
  · intro t ht; have q := g9 t ht; simp (disch := omega) only [upd_eq, if_pos, if_neg]; exact q
  · intro j hj; have q := r2 j hj; simp (disch := omega) only [upd_eq, if_pos, if_neg]; exact q
  · intro j hj; have q := r3 j hj; simp (disch := omega) only [upd_eq, if_pos, if_neg]; exact q
  · intro t ht; have q := r4 t ht; simp (disch := omega) only [upd_eq, if_pos, if_neg]; exact q
  · intro t ht; have q := r5 t ht; simp (disch := omega) only [upd_eq, if_pos, if_neg]; exact q
  · intro t ht
    by_cases hh : t = nd
    · subst hh; simp (disch := omega) only [upd_eq, if_pos, if_neg]; exact ⟨rfl, rfl, rfl⟩
    · have q := r6 t (by omega); simp (disch := omega) only [upd_eq, if_pos, if_neg]; exact q
  · intro t ht; have q := r7 t ht; simp (disch := omega) only [upd_eq, if_pos, if_neg]; exact q
  · intro t ht; have q := r8 t ht; simp (disch := omega) only [upd_eq, if_pos, if_neg]; exact q
theorem rs_sight {a b : Int32} (h : RS s0 s1 s2 s3 s4 c0 c1 c2 c3 c4 se sk w) {n : Nat} (hn : s3 = nI n) (hlt : n < 10) (ha : 0 ≤ a.toInt ∧ a.toInt ≤ 240) (hb : 0 ≤ b.toInt ∧ b.toInt ≤ 999) : RS s0 s1 s2 (nI (n + 1)) s4 c0 c1 c2 (upd (upd c3 (2 * n) a) (2 * n + 1) b) c4 se sk (upd (upd (upd w (95 + n) a) (105 + n) b) 6 (nI (n + 1))) := by
  obtain ⟨np, nt, nd, ns, nr, ⟨g1, g2, g3, g4, g5, g6, g7, g8, g9⟩, ⟨r1, r2, r3, r4, r5, r6, r7, r8⟩⟩ := h
  have e : ns = n := (nI_eq (by omega) (by omega)).mp (r1.2.2.2.1.symm.trans hn)
  subst e
  refine ⟨np, nt, nd, ns + 1, nr, ⟨by omega, ?_, ?_, ?_, ?_, ?_, ?_, ?_, ?_⟩, ⟨⟨r1.1, r1.2.1, r1.2.2.1, rfl, r1.2.2.2.2⟩, ?_, ?_, ?_, ?_, ?_, ?_, ?_⟩⟩
  · refine ⟨?_, ?_, ?_, ?_, ?_⟩ <;> simp (disch := omega) only [upd_eq, if_pos, if_neg] <;> first | rfl | exact g2.1 | exact g2.2.1 | exact g2.2.2.1 | exact g2.2.2.2.1 | exact g2.2.2.2.2
  · simp (disch := omega) only [upd_eq, if_pos, if_neg]; exact g3
  · simp (disch := omega) only [upd_eq, if_pos, if_neg]; exact g4
  · intro t ht; have q := g5 t ht; simp (disch := omega) only [upd_eq, if_pos, if_neg]; exact q
  · intro t ht; have q := g6 t ht; simp (disch := omega) only [upd_eq, if_pos, if_neg]; exact q
  · intro t ht; have q := g7 t ht; simp (disch := omega) only [upd_eq, if_pos, if_neg]; exact q
  · intro t ht
    by_cases hh : t = ns
    · subst hh; simp (disch := omega) only [upd_eq, if_pos, if_neg]; exact ⟨ha, hb⟩
    · have q := g8 t (by omega); simp (disch := omega) only [upd_eq, if_pos, if_neg]; exact q
  · intro t ht; have q := g9 t ht; simp (disch := omega) only [upd_eq, if_pos, if_neg]; exact q
  · intro j hj; have q := r2 j hj; simp (disch := omega) only [upd_eq, if_pos, if_neg]; exact q
  · intro j hj; have q := r3 j hj; simp (disch := omega) only [upd_eq, if_pos, if_neg]; exact q
  · intro t ht; have q := r4 t ht; simp (disch := omega) only [upd_eq, if_pos, if_neg]; exact q
  · intro t ht; have q := r5 t ht; simp (disch := omega) only [upd_eq, if_pos, if_neg]; exact q
  · intro t ht; have q := r6 t ht; simp (disch := omega) only [upd_eq, if_pos, if_neg]; exact q
  · intro t ht
    by_cases hh : t = ns
    · subst hh; simp (disch := omega) only [upd_eq, if_pos, if_neg]; exact ⟨rfl, rfl⟩
    · have q := r7 t (by omega); simp (disch := omega) only [upd_eq, if_pos, if_neg]; exact q
  · intro t ht; have q := r8 t ht; simp (disch := omega) only [upd_eq, if_pos, if_neg]; exact q
theorem rs_write {a : Int32} (h : RS s0 s1 s2 s3 s4 c0 c1 c2 c3 c4 se sk w) {n : Nat} (hn : s4 = nI n) (hlt : n < 40) (ha : 0 ≤ a.toInt ∧ a.toInt ≤ 127) : RS s0 s1 s2 s3 (nI (n + 1)) c0 c1 c2 c3 (upd c4 n a) se sk (upd (upd w (115 + n) a) 7 (nI (n + 1))) := by
  obtain ⟨np, nt, nd, ns, nr, ⟨g1, g2, g3, g4, g5, g6, g7, g8, g9⟩, ⟨r1, r2, r3, r4, r5, r6, r7, r8⟩⟩ := h
  have e : nr = n := (nI_eq (by omega) (by omega)).mp (r1.2.2.2.2.symm.trans hn)
  subst e
  refine ⟨np, nt, nd, ns, nr + 1, ⟨by omega, ?_, ?_, ?_, ?_, ?_, ?_, ?_, ?_⟩, ⟨⟨r1.1, r1.2.1, r1.2.2.1, r1.2.2.2.1, rfl⟩, ?_, ?_, ?_, ?_, ?_, ?_, ?_⟩⟩
  · refine ⟨?_, ?_, ?_, ?_, ?_⟩ <;> simp (disch := omega) only [upd_eq, if_pos, if_neg] <;> first | rfl | exact g2.1 | exact g2.2.1 | exact g2.2.2.1 | exact g2.2.2.2.1 | exact g2.2.2.2.2
  · simp (disch := omega) only [upd_eq, if_pos, if_neg]; exact g3
  · simp (disch := omega) only [upd_eq, if_pos, if_neg]; exact g4
  · intro t ht; have q := g5 t ht; simp (disch := omega) only [upd_eq, if_pos, if_neg]; exact q
  · intro t ht; have q := g6 t ht; simp (disch := omega) only [upd_eq, if_pos, if_neg]; exact q
  · intro t ht; have q := g7 t ht; simp (disch := omega) only [upd_eq, if_pos, if_neg]; exact q
  · intro t ht; have q := g8 t ht; simp (disch := omega) only [upd_eq, if_pos, if_neg]; exact q
  · intro t ht
    by_cases hh : t = nr
    · subst hh; simp (disch := omega) only [upd_eq, if_pos, if_neg]; exact ha
    · have q := g9 t (by omega); simp (disch := omega) only [upd_eq, if_pos, if_neg]; exact q
  · intro j hj; have q := r2 j hj; simp (disch := omega) only [upd_eq, if_pos, if_neg]; exact q
  · intro j hj; have q := r3 j hj; simp (disch := omega) only [upd_eq, if_pos, if_neg]; exact q
  · intro t ht; have q := r4 t ht; simp (disch := omega) only [upd_eq, if_pos, if_neg]; exact q
  · intro t ht; have q := r5 t ht; simp (disch := omega) only [upd_eq, if_pos, if_neg]; exact q
  · intro t ht; have q := r6 t ht; simp (disch := omega) only [upd_eq, if_pos, if_neg]; exact q
  · intro t ht; have q := r7 t ht; simp (disch := omega) only [upd_eq, if_pos, if_neg]; exact q
  · intro t ht
    by_cases hh : t = nr
    · subst hh; simp (disch := omega) only [upd_eq, if_pos, if_neg]; exact rfl
    · have q := r8 t (by omega); simp (disch := omega) only [upd_eq, if_pos, if_neg]; exact q
theorem rs_clear1 (h : RS s0 s1 s2 s3 s4 c0 c1 c2 c3 c4 se sk w) : RS s0 0 s2 s3 s4 c0 c1 c2 c3 c4 se sk (upd w 4 0) := by
  obtain ⟨np, nt, nd, ns, nr, ⟨g1, g2, g3, g4, g5, g6, g7, g8, g9⟩, ⟨r1, r2, r3, r4, r5, r6, r7, r8⟩⟩ := h
  refine ⟨np, 0, nd, ns, nr, ⟨by omega, ?_, ?_, ?_, ?_, ?_, ?_, ?_, ?_⟩, ⟨⟨r1.1, rfl, r1.2.2.1, r1.2.2.2.1, r1.2.2.2.2⟩, ?_, ?_, ?_, ?_, ?_, ?_, ?_⟩⟩
  · refine ⟨?_, ?_, ?_, ?_, ?_⟩ <;> simp (disch := omega) only [upd_eq, if_pos, if_neg] <;> first | rfl | exact g2.1 | exact g2.2.1 | exact g2.2.2.1 | exact g2.2.2.2.1 | exact g2.2.2.2.2
  · simp (disch := omega) only [upd_eq, if_pos, if_neg]; exact g3
  · simp (disch := omega) only [upd_eq, if_pos, if_neg]; exact g4
  · intro t ht; have q := g5 t ht; simp (disch := omega) only [upd_eq, if_pos, if_neg]; exact q
  · intro t ht; omega
  · intro t ht; have q := g7 t ht; simp (disch := omega) only [upd_eq, if_pos, if_neg]; exact q
  · intro t ht; have q := g8 t ht; simp (disch := omega) only [upd_eq, if_pos, if_neg]; exact q
  · intro t ht; have q := g9 t ht; simp (disch := omega) only [upd_eq, if_pos, if_neg]; exact q
  · intro j hj; have q := r2 j hj; simp (disch := omega) only [upd_eq, if_pos, if_neg]; exact q
  · intro j hj; have q := r3 j hj; simp (disch := omega) only [upd_eq, if_pos, if_neg]; exact q
  · intro t ht; have q := r4 t ht; simp (disch := omega) only [upd_eq, if_pos, if_neg]; exact q
  · intro t ht; omega
  · intro t ht; have q := r6 t ht; simp (disch := omega) only [upd_eq, if_pos, if_neg]; exact q
  · intro t ht; have q := r7 t ht; simp (disch := omega) only [upd_eq, if_pos, if_neg]; exact q
  · intro t ht; have q := r8 t ht; simp (disch := omega) only [upd_eq, if_pos, if_neg]; exact q
theorem rs_clear2 (h : RS s0 s1 s2 s3 s4 c0 c1 c2 c3 c4 se sk w) : RS s0 s1 0 s3 s4 c0 c1 c2 c3 c4 se sk (upd w 5 0) := by
  obtain ⟨np, nt, nd, ns, nr, ⟨g1, g2, g3, g4, g5, g6, g7, g8, g9⟩, ⟨r1, r2, r3, r4, r5, r6, r7, r8⟩⟩ := h
  refine ⟨np, nt, 0, ns, nr, ⟨by omega, ?_, ?_, ?_, ?_, ?_, ?_, ?_, ?_⟩, ⟨⟨r1.1, r1.2.1, rfl, r1.2.2.2.1, r1.2.2.2.2⟩, ?_, ?_, ?_, ?_, ?_, ?_, ?_⟩⟩
  · refine ⟨?_, ?_, ?_, ?_, ?_⟩ <;> simp (disch := omega) only [upd_eq, if_pos, if_neg] <;> first | rfl | exact g2.1 | exact g2.2.1 | exact g2.2.2.1 | exact g2.2.2.2.1 | exact g2.2.2.2.2
  · simp (disch := omega) only [upd_eq, if_pos, if_neg]; exact g3
  · simp (disch := omega) only [upd_eq, if_pos, if_neg]; exact g4
  · intro t ht; have q := g5 t ht; simp (disch := omega) only [upd_eq, if_pos, if_neg]; exact q
  · intro t ht; have q := g6 t ht; simp (disch := omega) only [upd_eq, if_pos, if_neg]; exact q
  · intro t ht; omega
  · intro t ht; have q := g8 t ht; simp (disch := omega) only [upd_eq, if_pos, if_neg]; exact q
  · intro t ht; have q := g9 t ht; simp (disch := omega) only [upd_eq, if_pos, if_neg]; exact q
  · intro j hj; have q := r2 j hj; simp (disch := omega) only [upd_eq, if_pos, if_neg]; exact q
  · intro j hj; have q := r3 j hj; simp (disch := omega) only [upd_eq, if_pos, if_neg]; exact q
  · intro t ht; have q := r4 t ht; simp (disch := omega) only [upd_eq, if_pos, if_neg]; exact q
  · intro t ht; have q := r5 t ht; simp (disch := omega) only [upd_eq, if_pos, if_neg]; exact q
  · intro t ht; omega
  · intro t ht; have q := r7 t ht; simp (disch := omega) only [upd_eq, if_pos, if_neg]; exact q
  · intro t ht; have q := r8 t ht; simp (disch := omega) only [upd_eq, if_pos, if_neg]; exact q
theorem rs_clear3 (h : RS s0 s1 s2 s3 s4 c0 c1 c2 c3 c4 se sk w) : RS s0 s1 s2 0 s4 c0 c1 c2 c3 c4 se sk (upd w 6 0) := by
  obtain ⟨np, nt, nd, ns, nr, ⟨g1, g2, g3, g4, g5, g6, g7, g8, g9⟩, ⟨r1, r2, r3, r4, r5, r6, r7, r8⟩⟩ := h
  refine ⟨np, nt, nd, 0, nr, ⟨by omega, ?_, ?_, ?_, ?_, ?_, ?_, ?_, ?_⟩, ⟨⟨r1.1, r1.2.1, r1.2.2.1, rfl, r1.2.2.2.2⟩, ?_, ?_, ?_, ?_, ?_, ?_, ?_⟩⟩
  · refine ⟨?_, ?_, ?_, ?_, ?_⟩ <;> simp (disch := omega) only [upd_eq, if_pos, if_neg] <;> first | rfl | exact g2.1 | exact g2.2.1 | exact g2.2.2.1 | exact g2.2.2.2.1 | exact g2.2.2.2.2
  · simp (disch := omega) only [upd_eq, if_pos, if_neg]; exact g3
  · simp (disch := omega) only [upd_eq, if_pos, if_neg]; exact g4
  · intro t ht; have q := g5 t ht; simp (disch := omega) only [upd_eq, if_pos, if_neg]; exact q
  · intro t ht; have q := g6 t ht; simp (disch := omega) only [upd_eq, if_pos, if_neg]; exact q
  · intro t ht; have q := g7 t ht; simp (disch := omega) only [upd_eq, if_pos, if_neg]; exact q
  · intro t ht; omega
  · intro t ht; have q := g9 t ht; simp (disch := omega) only [upd_eq, if_pos, if_neg]; exact q
  · intro j hj; have q := r2 j hj; simp (disch := omega) only [upd_eq, if_pos, if_neg]; exact q
  · intro j hj; have q := r3 j hj; simp (disch := omega) only [upd_eq, if_pos, if_neg]; exact q
  · intro t ht; have q := r4 t ht; simp (disch := omega) only [upd_eq, if_pos, if_neg]; exact q
  · intro t ht; have q := r5 t ht; simp (disch := omega) only [upd_eq, if_pos, if_neg]; exact q
  · intro t ht; have q := r6 t ht; simp (disch := omega) only [upd_eq, if_pos, if_neg]; exact q
  · intro t ht; omega
  · intro t ht; have q := r8 t ht; simp (disch := omega) only [upd_eq, if_pos, if_neg]; exact q
theorem rs_erase (h : RS s0 s1 s2 s3 s4 c0 c1 c2 c3 c4 se sk w) : RS s0 s1 s2 s3 0 c0 c1 c2 c3 c4 se sk (upd w 7 0) := by
  obtain ⟨np, nt, nd, ns, nr, ⟨g1, g2, g3, g4, g5, g6, g7, g8, g9⟩, ⟨r1, r2, r3, r4, r5, r6, r7, r8⟩⟩ := h
  refine ⟨np, nt, nd, ns, 0, ⟨by omega, ?_, ?_, ?_, ?_, ?_, ?_, ?_, ?_⟩, ⟨⟨r1.1, r1.2.1, r1.2.2.1, r1.2.2.2.1, rfl⟩, ?_, ?_, ?_, ?_, ?_, ?_, ?_⟩⟩
  · refine ⟨?_, ?_, ?_, ?_, ?_⟩ <;> simp (disch := omega) only [upd_eq, if_pos, if_neg] <;> first | rfl | exact g2.1 | exact g2.2.1 | exact g2.2.2.1 | exact g2.2.2.2.1 | exact g2.2.2.2.2
  · simp (disch := omega) only [upd_eq, if_pos, if_neg]; exact g3
  · simp (disch := omega) only [upd_eq, if_pos, if_neg]; exact g4
  · intro t ht; have q := g5 t ht; simp (disch := omega) only [upd_eq, if_pos, if_neg]; exact q
  · intro t ht; have q := g6 t ht; simp (disch := omega) only [upd_eq, if_pos, if_neg]; exact q
  · intro t ht; have q := g7 t ht; simp (disch := omega) only [upd_eq, if_pos, if_neg]; exact q
  · intro t ht; have q := g8 t ht; simp (disch := omega) only [upd_eq, if_pos, if_neg]; exact q
  · intro t ht; omega
  · intro j hj; have q := r2 j hj; simp (disch := omega) only [upd_eq, if_pos, if_neg]; exact q
  · intro j hj; have q := r3 j hj; simp (disch := omega) only [upd_eq, if_pos, if_neg]; exact q
  · intro t ht; have q := r4 t ht; simp (disch := omega) only [upd_eq, if_pos, if_neg]; exact q
  · intro t ht; have q := r5 t ht; simp (disch := omega) only [upd_eq, if_pos, if_neg]; exact q
  · intro t ht; have q := r6 t ht; simp (disch := omega) only [upd_eq, if_pos, if_neg]; exact q
  · intro t ht; have q := r7 t ht; simp (disch := omega) only [upd_eq, if_pos, if_neg]; exact q
  · intro t ht; omega
theorem rs_stake {a1 a2 a3 a4 a5 : Int32} (h : RS s0 s1 s2 s3 s4 c0 c1 c2 c3 c4 se sk w) (h1 : 0 ≤ a1.toInt ∧ a1.toInt ≤ 20) (h2 : 0 ≤ a2.toInt ∧ a2.toInt ≤ 20) (h3 : -99 ≤ a3.toInt ∧ a3.toInt ≤ 99) (h4 : -99 ≤ a4.toInt ∧ a4.toInt ≤ 99) (h5 : 0 ≤ a5.toInt ∧ a5.toInt ≤ 99) : RS s0 s1 s2 s3 s4 c0 c1 c2 c3 c4 se (upd (upd (upd (upd (upd sk 0 a1) 1 a2) 2 a3) 3 a4) 4 a5) (upd (upd (upd (upd (upd w 8 a1) 9 a2) 10 a3) 11 a4) 12 a5) := by
  obtain ⟨np, nt, nd, ns, nr, ⟨g1, g2, g3, g4, g5, g6, g7, g8, g9⟩, ⟨r1, r2, r3, r4, r5, r6, r7, r8⟩⟩ := h
  refine ⟨np, nt, nd, ns, nr, ⟨by omega, ?_, ?_, ?_, ?_, ?_, ?_, ?_, ?_⟩, ⟨⟨r1.1, r1.2.1, r1.2.2.1, r1.2.2.2.1, r1.2.2.2.2⟩, ?_, ?_, ?_, ?_, ?_, ?_, ?_⟩⟩
  · refine ⟨?_, ?_, ?_, ?_, ?_⟩ <;> simp (disch := omega) only [upd_eq, if_pos, if_neg] <;> first | rfl | exact g2.1 | exact g2.2.1 | exact g2.2.2.1 | exact g2.2.2.2.1 | exact g2.2.2.2.2
  · simp (disch := omega) only [upd_eq, if_pos, if_neg]; exact g3
  · simp (disch := omega) only [upd_eq, if_pos, if_neg]; exact ⟨h1, h2, h3, h4, h5⟩
  · intro t ht; have q := g5 t ht; simp (disch := omega) only [upd_eq, if_pos, if_neg]; exact q
  · intro t ht; have q := g6 t ht; simp (disch := omega) only [upd_eq, if_pos, if_neg]; exact q
  · intro t ht; have q := g7 t ht; simp (disch := omega) only [upd_eq, if_pos, if_neg]; exact q
  · intro t ht; have q := g8 t ht; simp (disch := omega) only [upd_eq, if_pos, if_neg]; exact q
  · intro t ht; have q := g9 t ht; simp (disch := omega) only [upd_eq, if_pos, if_neg]; exact q
  · intro j hj; have q := r2 j hj; simp (disch := omega) only [upd_eq, if_pos, if_neg]; exact q
  · intro j hj
    match j, hj with
    | 0, _ => rfl
    | 1, _ => rfl
    | 2, _ => rfl
    | 3, _ => rfl
    | 4, _ => rfl
    | j + 5, hj => omega
  · intro t ht; have q := r4 t ht; simp (disch := omega) only [upd_eq, if_pos, if_neg]; exact q
  · intro t ht; have q := r5 t ht; simp (disch := omega) only [upd_eq, if_pos, if_neg]; exact q
  · intro t ht; have q := r6 t ht; simp (disch := omega) only [upd_eq, if_pos, if_neg]; exact q
  · intro t ht; have q := r7 t ht; simp (disch := omega) only [upd_eq, if_pos, if_neg]; exact q
  · intro t ht; have q := r8 t ht; simp (disch := omega) only [upd_eq, if_pos, if_neg]; exact q
end RS2
