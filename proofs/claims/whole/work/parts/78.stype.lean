/-! STEPS: type, turns, paid -/
theorem tx_and (x : Int64) : (x &&& (255 : Int64)).toInt32 = x.toInt32 &&& 255 := by
  apply Int32.toBitVec_inj.mp
  simp
theorem tx_rng (x : Int32) : 0 ≤ (x &&& 255).toInt ∧ (x &&& 255).toInt ≤ 255 := by
  have h : (x &&& 255).toBitVec.toNat ≤ 255 := by
    rw [Int32.toBitVec_and, BitVec.toNat_and]
    exact Nat.le_trans Nat.and_le_right (by decide)
  have h2 : (x &&& 255).toInt = ((x &&& 255).toBitVec.toNat : Int) := by
    show (x &&& 255).toBitVec.toInt = _
    rw [BitVec.toInt_eq_toNat_of_lt (by omega)]
  omega
theorem zp_type : zstep_type Inv := by
  intro I Aa J V h a1 a2
  obtain ⟨hS, hT, hR, hI, hF, hc, hp⟩ := h
  obtain ⟨n, t1, t2, t3, t4⟩ := id hT
  have l0 : (a2 < 1) ↔ a2.toInt < 1 := Int32.lt_iff_toInt_lt
  have l2 : (a2 ≤ 8) ↔ a2.toInt ≤ 8 := Int32.le_iff_toInt_le
  unfold g_X10_type g_X11_type g_X10_type_11 g_X7_size g_X7_limit
  rw [p_inN a2 1 8 1 8 rfl rfl, hr2, hr4, hm2, hm4]
  simp only [pb_some, ite10, l0, l2]
  by_cases e : 1 ≤ a2.toInt ∧ a2.toInt ≤ 8
  · rw [if_neg (show ¬ a2.toInt < 1 by omega), if_pos e.2, if_neg (not_not_intro e)]
    obtain ⟨k, hk, rfl⟩ := i32c (show 0 ≤ a2.toInt by omega) (n := 8) e.2
    rw [nI_toInt (by omega)] at e
    have hle : ∀ s : Int32, s = nI n → ((s + nI k ≤ 250) ↔ n + k ≤ 250) := by
      intro s hs
      rw [hs]; simp (disch := omega) only [n_z1, n_z2, n_z3, n_z4, n_z5, n_z6, n_z7, n_z8, n_leL, n_leR, n_ltL, n_ltR, n_eqL, n_eqR, n_m1R, n_addL, n_addR, n_mulL, n_mulR, n_subR, n_subL, n_add, n_mul, n_neg, n_sub, n_le, n_lt, n_eq, nI_clamp, if_true, if_false, if_pos, if_neg, or_false, false_or, not_false_eq_true, not_true_eq_false]
    by_cases e2 : n + k ≤ 250
    · rw [if_pos ((hle _ t2).2 e2), if_pos ((hle _ t3).2 e2)]
      have loop : ∀ (i z : Nat) (f g : Nat → Int32) (s s' : Int32), i ≤ k → i < z → iT s s' f g → s = nI (n + (k - i)) →
          ∃ s1 f1 g1, g_X10_type_49 250 1 250 a1 (nI k) z (nI i - 1) (Aa 44) s f = some (s1, Aa 44, s1, f1) ∧ g_X11_type_43 a1 (nI k) z (nI i - 1) s' g (Aa 51) = some (s1, s1, g1, Aa 51) ∧ iT s1 s1 f1 g1 := by
        intro i
        induction i with
        | zero =>
          intro z f g s s' hi hz hT hs
          obtain ⟨z, rfl⟩ : ∃ y, z = y + 1 := ⟨z - 1, by omega⟩
          obtain ⟨m, u1, u2, u3, u4⟩ := id hT
          rw [g_X10_type_49, g_X11_type_43]
          unfold g_X10_type_49b g_X11_type_43b g_X7_size
          rw [if_pos (show nI 0 - 1 < 0 by decide), if_pos (show nI 0 - 1 < 0 by decide), pb_some]
          exact ⟨s, f, g, rfl, by rw [u3, ← u2], ⟨m, u1, u2, u2, u4⟩⟩
        | succ i ih =>
          intro z f g s s' hi hz hT hs
          obtain ⟨z, rfl⟩ : ∃ y, z = y + 1 := ⟨z - 1, by omega⟩
          obtain ⟨m, u1, u2, u3, u4⟩ := id hT
          have hm : m = n + (k - (i + 1)) := (nI_eq (by omega) (by omega)).mp (u2.symm.trans hs)
          rw [g_X10_type_49, g_X11_type_43]
          unfold g_X10_type_49b g_X11_type_43b
          rw [n_pred (show 0 < i + 1 by omega), Nat.add_sub_cancel, u3, p_add1E u2 (lim := 250) (by decide) (show m < 250 by omega) (by omega) (by omega) (by omega), n_neg]
          simp (disch := omega) only [n_z1, n_z2, n_z3, n_z4, n_z5, n_z6, n_z7, n_z8, n_leL, n_leR, n_ltL, n_ltR, n_eqL, n_eqR, n_m1R, n_addL, n_addR, n_mulL, n_mulR, n_subR, n_subL, n_add, n_mul, n_neg, n_sub, n_le, n_lt, n_eq, nI_clamp, if_true, if_false, if_pos, if_neg, or_false, false_or, not_false_eq_true, not_true_eq_false, pb_some]
          rw [tx_and]
          refine ih z _ _ _ _ (by omega) (by omega) ⟨m + 1, by omega, rfl, rfl, ?_⟩ (by rw [hm]; congr 1; omega)
          intro j hj
          rw [upd_eq, upd_eq]
          by_cases e3 : j = m
          · rw [if_pos e3, if_pos e3]
            exact ⟨rfl, tx_rng _⟩
          · rw [if_neg e3, if_neg e3]
            exact u4 j (by omega)
      obtain ⟨s1, f1, g1, x1, m1, iv⟩ := loop k zF (Aa 14) (Aa 48) (I 10) (I 38) (Nat.le_refl k) (by show _ < 65536; omega) hT (by rw [t2]; congr 1; omega)
      exact ⟨_, _, x1, m1, rfl, hS, iv, hR, hI, hF, hc, hp⟩
    · rw [if_neg (fun h => e2 ((hle _ t2).1 h)), if_neg (fun h => e2 ((hle _ t3).1 h))]
      exact ⟨_, _, rfl, rfl, rfl, hS, hT, iR_2 hR, hI, hF, hc, hp⟩
  · rw [if_pos e]
    by_cases e1 : a2.toInt < 1
    · rw [if_pos e1]
      exact ⟨_, _, rfl, rfl, rfl, hS, hT, iR_0 hR, hI, hF, hc, hp⟩
    · rw [if_neg e1, if_neg (show ¬ a2.toInt ≤ 8 by omega)]
      exact ⟨_, _, rfl, rfl, rfl, hS, hT, iR_0 hR, hI, hF, hc, hp⟩
