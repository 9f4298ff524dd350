/-! STEPS: clears, wipe, write, erase, stake, status, count -/
theorem zp_clears : zstep_clears Inv := by
  intro I Aa J V h a1
  obtain ⟨hS, hT, hR, hI, hF, hc, hp⟩ := h
  have hS' := hS
  obtain ⟨np, nt, nd, ns, nr, hG, hC⟩ := hS
  have l0 : (a1 < 0) ↔ a1.toInt < 0 := Int32.lt_iff_toInt_lt
  have l2 : (a1 ≤ 2) ↔ a1.toInt ≤ 2 := Int32.le_iff_toInt_le
  unfold g_X10_clears g_X11_clears g_X10_clears_9
  rw [p_inN a1 0 2 0 2 rfl rfl, hr2, hm2]
  simp only [pb_some, ite10, l0, l2]
  by_cases e : 0 ≤ a1.toInt ∧ a1.toInt ≤ 2
  · rw [if_neg (by omega), if_pos e.2, if_neg (not_not_intro e), p_changed]
    obtain ⟨k, hk, rfl⟩ := i32c e.1 (n := 2) e.2
    rcases (show k = 0 ∨ k = 1 ∨ k = 2 by omega) with rfl | rfl | rfl
    · refine ⟨_, _, rfl, rfl, ?_, ?_⟩
      · exact hC.1.2.1.trans hG.2.1.2.1.symm
      · exact ⟨rs_clear1 hS', hT, hR, hI, hF, ic_chg .., cp_chg _ _ _ _⟩
    · refine ⟨_, _, rfl, rfl, ?_, ?_⟩
      · exact hC.1.2.2.1.trans hG.2.1.2.2.1.symm
      · exact ⟨rs_clear2 hS', hT, hR, hI, hF, ic_chg .., cp_chg _ _ _ _⟩
    · refine ⟨_, _, rfl, rfl, ?_, ?_⟩
      · exact hC.1.2.2.2.1.trans hG.2.1.2.2.2.1.symm
      · exact ⟨rs_clear3 hS', hT, hR, hI, hF, ic_chg .., cp_chg _ _ _ _⟩
  · rw [if_pos e]
    by_cases e1 : a1.toInt < 0
    · rw [if_pos e1]
      exact ⟨_, _, rfl, rfl, rfl, hS', hT, iR_0 hR, hI, hF, hc, hp⟩
    · rw [if_neg e1, if_neg (by omega)]
      exact ⟨_, _, rfl, rfl, rfl, hS', hT, iR_0 hR, hI, hF, hc, hp⟩
theorem zp_wipe : zstep_wipe Inv := by
  intro I Aa J V h _
  obtain ⟨hS, hT, hR, hI, hF, hc, hp⟩ := h
  refine ⟨_, _, rfl, rfl, ?_, ?_⟩
  · obtain ⟨n, h1, h2, h3, h4⟩ := hT
    exact h2.trans h3.symm
  · exact ⟨hS, ⟨0, by omega, rfl, rfl, fun j hj => by omega⟩, hR, hI, hF, hc, hp⟩
theorem zp_erase : zstep_erase Inv := by
  intro I Aa J V h _
  obtain ⟨hS, hT, hR, hI, hF, hc, hp⟩ := h
  refine ⟨_, _, rfl, rfl, ?_, ?_⟩
  · obtain ⟨np, nt, nd, ns, nr, hG, hC⟩ := hS
    exact hC.1.2.2.2.2.trans hG.2.1.2.2.2.2.symm
  · exact ⟨rs_erase hS, hT, hR, hI, hF, ic_chg .., cp_chg _ _ _ _⟩
theorem zp_write : zstep_write Inv := by
  intro I Aa J V h a1
  obtain ⟨hS, hT, hR, hI, hF, hc, hp⟩ := h
  have hS' := hS
  obtain ⟨np, nt, nd, ns, nr, hG, hC⟩ := hS
  have hs := hC.1.2.2.2.2
  have hw := hG.2.1.2.2.2.2
  have hb := hG.1
  have l0 : (a1 < 0) ↔ a1.toInt < 0 := Int32.lt_iff_toInt_lt
  have l2 : (a1 ≤ 127) ↔ a1.toInt ≤ 127 := Int32.le_iff_toInt_le
  unfold g_X10_write g_X11_write g_X10_write_10
  rw [p_inN a1 0 127 0 127 rfl rfl, hr2, hm2, hr4, hm4]
  simp only [pb_some, ite10, l0, l2]
  by_cases e : 0 ≤ a1.toInt ∧ a1.toInt ≤ 127
  · rw [if_neg (by omega), if_pos e.2, if_neg (not_not_intro e), hw, p_fullE hs (lim := 40) (by decide) (show nr < 2 ^ 31 by omega) (by decide), pb_some]
    by_cases e3 : 40 ≤ nr
    · rw [if_pos e3, if_neg (by decide)]
      have : nr = 40 := by omega
      subst this
      rw [if_pos (show nI 40 = 40 from rfl)]
      exact ⟨_, _, rfl, rfl, rfl, hS', hT, iR_2 hR, hI, hF, hc, hp⟩
    · rw [if_neg e3, if_pos rfl, p_changed, pb_some, p_add1E hs (lim := 40) (by decide) (show nr < 40 by omega) (by omega) (by omega) (by omega)]
      simp (disch := omega) only [n_z1, n_z2, n_z3, n_z4, n_z5, n_z6, n_z7, n_z8, n_leL, n_leR, n_ltL, n_ltR, n_eqL, n_eqR, n_m1R, n_addL, n_addR, n_mulL, n_mulR, n_subR, n_subL, n_add, n_mul, n_neg, n_sub, n_le, n_lt, n_eq, nI_clamp, if_true, if_false, if_pos, if_neg, or_false, false_or, not_false_eq_true, not_true_eq_false, pb_some]
      have := rs_write hS' hs (show nr < 40 by omega) e
      have q : upd (Aa 45) (115 + nr) a1 7 + 1 = nI (nr + 1) := by
        rw [upd_eq, if_neg (by omega), hw, n_addR]
      rw [q]
      refine ⟨_, _, rfl, rfl, ?_, ?_⟩
      · show _ = upd (upd (Aa 45) (115 + nr) a1) 7 (nI (nr + 1)) 7
        rw [upd_eq, if_pos rfl]
      · exact ⟨this, hT, hR, hI, hF, ic_chg .., cp_chg _ _ _ _⟩
  · rw [if_pos e]
    by_cases e1 : a1.toInt < 0
    · rw [if_pos e1]
      exact ⟨_, _, rfl, rfl, rfl, hS', hT, iR_0 hR, hI, hF, hc, hp⟩
    · rw [if_neg e1, if_neg (by omega)]
      exact ⟨_, _, rfl, rfl, rfl, hS', hT, iR_0 hR, hI, hF, hc, hp⟩
section
variable {w w' : Nat → Int32}
theorem tk_ext (H : ∀ j, j < 8 ∨ 12 < j → w' j = w j) (p m : Nat) : ∀ t, tk w' p m t = tk w p m t
  | 0 => rfl
  | t + 1 => by rw [tk, tk, tk_ext H p m t, H _ (by omega), H _ (by omega), H _ (by omega)]
theorem vo_ext (H : ∀ j, j < 8 ∨ 12 < j → w' j = w j) (tv : TVT) (p m : Nat) (cl ot : Int32) : vo w' tv p m cl ot = vo w tv p m cl ot := by
  unfold vo
  rw [H (13 + p) (by omega), H 1 (by omega), H 2 (by omega)]
theorem sm_ext (H : ∀ j, j < 8 ∨ 12 < j → w' j = w j) (tv : TVT) (s : Int32) (nt v m : Nat) (cl : Int32) : ∀ p, sm w' tv s nt v m cl p = sm w tv s nt v m cl p
  | 0 => rfl
  | p + 1 => by rw [sm, sm, sm_ext H tv s nt v m cl p, tk_ext H, vo_ext H, H (18 + p) (by omega)]
theorem cw_ext (H : ∀ j, j < 8 ∨ 12 < j → w' j = w j) (tv : TVT) (s : Int32) (nt np v : Nat) : ∀ m, cw w' tv s nt np v m = cw w tv s nt np v m
  | 0 => rfl
  | m + 1 => by rw [cw, cw, cw_ext H tv s nt np v m, sm_ext H, H 0 (by omega)]
theorem dok_ext (H : ∀ j, j < 8 ∨ 12 < j → w' j = w j) {tv : TVT} {nt np : Nat} {T C0 C1 : Nat → Int32} (h : DOK w tv nt np T C0 C1) : DOK w' tv nt np T C0 C1 :=
  ⟨fun m hm p hp => by rw [tk_ext H]; exact h.1 m hm p hp, fun m hm => by rw [cw_ext H]; exact h.2.1 m hm, fun m hm => by rw [cw_ext H]; exact h.2.2 m hm⟩
theorem rt_ext (H : ∀ j, j < 8 ∨ 12 < j → w' j = w j) {L : Nat} {size fault : Int32} {row : Nat → Int32} {tv : TVT} (h : RT (fun j => w (115 + j)) L (w 2) (w 0) size fault row tv) : RT (fun j => w' (115 + j)) L (w' 2) (w' 0) size fault row tv := by
  rw [H 2 (by omega), H 0 (by omega), show (fun j => w' (115 + j)) = fun j => w (115 + j) from funext fun j => H _ (by omega)]
  exact h
theorem gq_ext (H : ∀ j, j < 8 ∨ 12 < j → w' j = w j) (tv : TVT) (np nt ns : Nat) : gq w' tv np nt ns = gq w tv np nt ns := by
  funext s
  unfold gq gAll gSee
  simp only [cw_ext H]
  congr 2
  · funext p; rw [H (18 + p) (by omega)]
  · funext k; rw [H (95 + k) (by omega), H (105 + k) (by omega)]
theorem pS_ext (H : ∀ j, j < 8 ∨ 12 < j → w' j = w j) (m c : Nat) : ∀ d, pS w' m c d = pS w m c d
  | 0 => rfl
  | d + 1 => by rw [pS, pS, pS_ext H m c d, H _ (by omega), H _ (by omega), H _ (by omega)]
theorem pM_ext (H : ∀ j, j < 8 ∨ 12 < j → w' j = w j) (k nd : Nat) : ∀ r c, pM w' k nd r c = pM w k nd r c
  | 0, c => by rw [pM, pM, pS_ext H]
  | r + 1, c => by
    rw [pM, pM, pS_ext H, H 0 (by omega)]
    congr 2
    funext g
    rw [pM_ext H k nd r]
theorem ic_ext (H : ∀ j, j < 8 ∨ 12 < j → w' j = w j) {size fault stale dst gst sets least surely : Int32} {row T C0 C1 : Nat → Int32} (h : cR w size fault stale row ∧ cD w size fault stale row dst T C0 C1 ∧ cG w size fault stale row dst gst sets least surely) : cR w' size fault stale row ∧ cD w' size fault stale row dst T C0 C1 ∧ cG w' size fault stale row dst gst sets least surely := by
  obtain ⟨h1, h2, h3⟩ := h
  refine ⟨fun e => ?_, fun e => ?_, fun e => ?_⟩
  · obtain ⟨tv, q⟩ := h1 e
    exact ⟨tv, by rw [H 7 (by omega)]; exact rt_ext H q⟩
  · obtain ⟨q0, tv, q1, q2⟩ := h2 e
    exact ⟨q0, tv, by rw [H 7 (by omega)]; exact rt_ext H q1, by rw [H 4 (by omega), H 3 (by omega)]; exact dok_ext H q2⟩
  · obtain ⟨q0, tv, q1, q2⟩ := h3 e
    refine ⟨q0, tv, by rw [H 7 (by omega)]; exact rt_ext H q1, ?_⟩
    unfold GuessOK
    rw [H 3 (by omega), H 4 (by omega), H 6 (by omega), gq_ext H]
    exact q2
theorem cp_ext (H : ∀ j, j < 8 ∨ 12 < j → w' j = w j) {pst price : Int32} {most : Nat → Int32} {steps : Nat → Int64} (h : cP w pst price most steps) : cP w' pst price most steps := by
  intro e
  obtain ⟨k, h1, h2, h3, h4, h5⟩ := h e
  refine ⟨k, h1, h2, ?_, ?_, ?_⟩
  · rw [H 5 (by omega), pM_ext H]; exact h3
  · rw [H 5 (by omega), pM_ext H]; exact h4
  · intro m hm c hc hc2
    rw [H 0 (by omega)] at hc2
    rw [h5 m hm c hc hc2, H 5 (by omega)]
    unfold pP
    rw [H 0 (by omega)]
    simp only [pM_ext H]
end
theorem zp_stake : zstep_stake Inv := by
  intro I Aa J V h a1 a2 a3 a4 a5
  obtain ⟨hS, hT, hR, hI, hF, hc, hp⟩ := h
  unfold g_X10_stake g_X11_stake g_X10_stake_54 g_X11_stake_66
  rw [p_inN a1 0 20 0 20 rfl rfl, p_inN a2 0 20 0 20 rfl rfl, p_inN a3 (-99) 99 (-99) 99 rfl rfl, p_inN a4 (-99) 99 (-99) 99 rfl rfl, p_inN a5 0 99 0 99 rfl rfl,
    p_isInZ a1 0 20 0 20 rfl rfl, p_isInZ a2 0 20 0 20 rfl rfl, p_isInZ a3 (-99) 99 (-99) 99 rfl rfl, p_isInZ a4 (-99) 99 (-99) 99 rfl rfl, p_isInZ a5 0 99 0 99 rfl rfl, hr2, hm2]
  simp only [pb_some, ite10]
  by_cases e1 : 0 ≤ a1.toInt ∧ a1.toInt ≤ 20
  · rw [if_neg (not_not_intro e1), if_neg (not_not_intro e1)]
    by_cases e2 : 0 ≤ a2.toInt ∧ a2.toInt ≤ 20
    · rw [if_neg (not_not_intro e2), if_neg (not_not_intro e2)]
      by_cases e3 : -99 ≤ a3.toInt ∧ a3.toInt ≤ 99
      · rw [if_neg (not_not_intro e3), if_neg (not_not_intro e3)]
        by_cases e4 : -99 ≤ a4.toInt ∧ a4.toInt ≤ 99
        · rw [if_neg (not_not_intro e4), if_neg (not_not_intro e4)]
          by_cases e5 : 0 ≤ a5.toInt ∧ a5.toInt ≤ 99
          · rw [if_neg (not_not_intro e5), if_neg (not_not_intro e5)]
            refine ⟨_, _, rfl, rfl, rfl, ?_⟩
            have H : ∀ j, j < 8 ∨ 12 < j → upd (upd (upd (upd (upd (Aa 45) 8 a1) 9 a2) 10 a3) 11 a4) 12 a5 j = Aa 45 j := by
              intro j hj
              simp (disch := omega) only [upd_eq, if_neg]
            exact ⟨rs_stake hS e1 e2 e3 e4 e5, hT, hR, hI, hF, ic_ext H hc, cp_ext H hp⟩
          · rw [if_pos e5, if_pos e5]
            exact ⟨_, _, rfl, rfl, rfl, hS, hT, iR_0 hR, hI, hF, hc, hp⟩
        · rw [if_pos e4, if_pos e4]
          exact ⟨_, _, rfl, rfl, rfl, hS, hT, iR_0 hR, hI, hF, hc, hp⟩
      · rw [if_pos e3, if_pos e3]
        exact ⟨_, _, rfl, rfl, rfl, hS, hT, iR_0 hR, hI, hF, hc, hp⟩
    · rw [if_pos e2, if_pos e2]
      exact ⟨_, _, rfl, rfl, rfl, hS, hT, iR_0 hR, hI, hF, hc, hp⟩
  · rw [if_pos e1, if_pos e1]
    exact ⟨_, _, rfl, rfl, rfl, hS, hT, iR_0 hR, hI, hF, hc, hp⟩
theorem zp_status : zstep_status Inv := by
  intro I Aa J V h a1
  obtain ⟨hS, hT, hR, hI, hF, hc, hp⟩ := h
  unfold g_X10_status g_X11_status
  rw [p_inN a1 0 2 0 2 rfl rfl, p_isInZ a1 0 2 0 2 rfl rfl, hr2]
  simp only [pb_some, ite10]
  by_cases e1 : 0 ≤ a1.toInt ∧ a1.toInt ≤ 2
  · rw [if_neg (not_not_intro e1), if_neg (not_not_intro e1)]
    obtain ⟨k, hk, rfl⟩ := i32c e1.1 (n := 2) e1.2
    simp (disch := omega) only [n_z1, n_z2, n_z3, n_z4, n_z5, n_z6, n_z7, n_z8, n_leL, n_leR, n_ltL, n_ltR, n_eqL, n_eqR, n_m1R, n_addL, n_addR, n_mulL, n_mulR, n_subR, n_subL, n_add, n_mul, n_neg, n_sub, n_le, n_lt, n_eq, nI_clamp, if_true, if_false, if_pos, if_neg, or_false, false_or, not_false_eq_true, not_true_eq_false]
    refine ⟨_, _, rfl, rfl, ?_, hS, hT, hR, hI, hF, hc, hp⟩
    rcases (show k = 0 ∨ k = 1 ∨ k = 2 by omega) with rfl | rfl | rfl
    · exact hR.1
    · exact hR.2.1
    · exact hR.2.2
  · rw [if_pos e1, if_pos e1]
    exact ⟨_, _, rfl, rfl, rfl, hS, hT, iR_0 hR, hI, hF, hc, hp⟩
theorem zp_count : zstep_count Inv := by
  intro I Aa J V h a1
  obtain ⟨hS, hT, hR, hI, hF, hc, hp⟩ := h
  unfold g_X10_count g_X11_count
  rw [p_inN a1 0 5 0 5 rfl rfl, p_isInZ a1 0 5 0 5 rfl rfl, hr2, hm2]
  simp only [pb_some, ite10]
  by_cases e1 : 0 ≤ a1.toInt ∧ a1.toInt ≤ 5
  · rw [if_neg (not_not_intro e1), if_neg (not_not_intro e1)]
    obtain ⟨k, hk, rfl⟩ := i32c e1.1 (n := 5) e1.2
    have hS' := hS
    obtain ⟨np, nt, nd, ns, nr, hG, hC⟩ := hS
    rcases (show k = 0 ∨ k = 1 ∨ k = 2 ∨ k = 3 ∨ k = 4 ∨ k = 5 by omega) with rfl | rfl | rfl | rfl | rfl | rfl
    · exact ⟨_, _, rfl, rfl, hC.1.1.trans hG.2.1.1.symm, hS', hT, hR, hI, hF, hc, hp⟩
    · exact ⟨_, _, rfl, rfl, hC.1.2.1.trans hG.2.1.2.1.symm, hS', hT, hR, hI, hF, hc, hp⟩
    · exact ⟨_, _, rfl, rfl, hC.1.2.2.1.trans hG.2.1.2.2.1.symm, hS', hT, hR, hI, hF, hc, hp⟩
    · exact ⟨_, _, rfl, rfl, hC.1.2.2.2.1.trans hG.2.1.2.2.2.1.symm, hS', hT, hR, hI, hF, hc, hp⟩
    · obtain ⟨n, h1, h2, h3, h4⟩ := id hT
      exact ⟨_, _, rfl, rfl, h2.trans h3.symm, hS', hT, hR, hI, hF, hc, hp⟩
    · exact ⟨_, _, rfl, rfl, hC.1.2.2.2.2.trans hG.2.1.2.2.2.2.symm, hS', hT, hR, hI, hF, hc, hp⟩
  · rw [if_pos e1, if_pos e1]
    exact ⟨_, _, rfl, rfl, rfl, hS, hT, iR_0 hR, hI, hF, hc, hp⟩
