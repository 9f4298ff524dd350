/-! PLAIN CALLS: each side's answer, in words of the arguments -/
theorem hr2 (R : Nat → Int32) : g_X10_refuse (-2) R = some (-2, upd R 0 (R 0 + 1)) := p_refX (-2) R 0 (by omega) (by decide)
theorem hr3 (R : Nat → Int32) : g_X10_refuse (-3) R = some (-3, upd R 1 (R 1 + 1)) := p_refX (-3) R 1 (by omega) (by decide)
theorem hr4 (R : Nat → Int32) : g_X10_refuse (-4) R = some (-4, upd R 2 (R 2 + 1)) := p_refX (-4) R 2 (by omega) (by decide)
theorem hm2 (R : Nat → Int32) : g_X11_refuse (-2) R = some (-2, upd R 0 (R 0 + 1)) := p_refM (-2) R 0 (by omega) (by decide)
theorem hm3 (R : Nat → Int32) : g_X11_refuse (-3) R = some (-3, upd R 1 (R 1 + 1)) := p_refM (-3) R 1 (by omega) (by decide)
theorem hm4 (R : Nat → Int32) : g_X11_refuse (-4) R = some (-4, upd R 2 (R 2 + 1)) := p_refM (-4) R 2 (by omega) (by decide)
theorem ite10 {P : Prop} {d : Decidable P} : ((@ite _ P d (1 : Int32) 0) = 0) = ¬ P := by
  by_cases h : P
  · rw [if_pos h]; simp [h]
  · rw [if_neg h]; simp [h]
theorem x_put0 (s a : Int32) (R SE : Nat → Int32) (f1 f2 f3 f4 : Int32) : g_X10_put s 0 a R SE f1 f2 f3 f4 = if 1 ≤ a.toInt ∧ a.toInt ≤ 4 then some (SE 0, R, upd SE 0 a, 1, 1, 1, 1) else some (-2, upd R 0 (R 0 + 1), SE, f1, f2, f3, f4) := by
  simp [g_X10_put, g_X10_put_23, x_told0, hr2, p_changed, ite10]
  grind
theorem x_put1 (s a : Int32) (R SE : Nat → Int32) (f1 f2 f3 f4 : Int32) : g_X10_put s 1 a R SE f1 f2 f3 f4 = if 0 ≤ a.toInt ∧ a.toInt ≤ 1 then some (SE 1, R, upd SE 1 a, 1, 1, 1, 1) else some (-2, upd R 0 (R 0 + 1), SE, f1, f2, f3, f4) := by
  simp [g_X10_put, g_X10_put_23, x_told1, hr2, p_changed, ite10]
  grind
theorem x_put2 (s a : Int32) (R SE : Nat → Int32) (f1 f2 f3 f4 : Int32) : g_X10_put s 2 a R SE f1 f2 f3 f4 = if 0 ≤ a.toInt ∧ a.toInt ≤ 240 then some (SE 2, R, upd SE 2 a, 1, 1, 1, 1) else some (-2, upd R 0 (R 0 + 1), SE, f1, f2, f3, f4) := by
  simp [g_X10_put, g_X10_put_23, x_told2, hr2, p_changed, ite10]
  grind
theorem x_put3 (s k a : Int32) (R SE : Nat → Int32) (f1 f2 f3 f4 : Int32) (h : ¬ (0 ≤ k.toInt ∧ k.toInt ≤ 2)) : g_X10_put s k a R SE f1 f2 f3 f4 = some (-2, upd R 0 (R 0 + 1), SE, f1, f2, f3, f4) := by
  unfold g_X10_put g_X10_put_23
  by_cases h1 : k < 0
  · rw [if_pos h1, hr2]; rfl
  · rw [if_neg h1, if_pos (by rw [Int32.lt_iff_toInt_lt] at *; simp at *; omega), hr2]; rfl
theorem m_put0 (a : Int32) (w R : Nat → Int32) : g_X11_put 0 a w R = if 1 ≤ a.toInt ∧ a.toInt ≤ 4 then some (w 0, upd w 0 a, R) else some (-2, w, upd R 0 (R 0 + 1)) := by
  simp [g_X11_put, g_X11_isPut, p_in, hm2, ite10]
  grind
theorem m_put1 (a : Int32) (w R : Nat → Int32) : g_X11_put 1 a w R = if 0 ≤ a.toInt ∧ a.toInt ≤ 1 then some (w 1, upd w 1 a, R) else some (-2, w, upd R 0 (R 0 + 1)) := by
  simp [g_X11_put, g_X11_isPut, p_in, hm2, ite10]
  grind
theorem m_put2 (a : Int32) (w R : Nat → Int32) : g_X11_put 2 a w R = if 0 ≤ a.toInt ∧ a.toInt ≤ 240 then some (w 2, upd w 2 a, R) else some (-2, w, upd R 0 (R 0 + 1)) := by
  simp [g_X11_put, g_X11_isPut, p_in, hm2, ite10]
  grind
theorem m_put3 (k a : Int32) (w R : Nat → Int32) (h : ¬ (0 ≤ k.toInt ∧ k.toInt ≤ 2)) : g_X11_put k a w R = some (-2, w, upd R 0 (R 0 + 1)) := by
  have h0 : ¬ k = 0 := fun e => by subst e; simp at h
  have h1 : ¬ k = 1 := fun e => by subst e; simp at h
  have h2 : ¬ k = 2 := fun e => by subst e; simp at h
  simp [g_X11_put, g_X11_isPut, h0, h1, h2, hm2]
