/-! TWO WHO HOLD THEIR TONGUES -/
theorem sh32 (p : Nat) (hp : p < 20) : ((nI p &&& 31).toBitVec.smod 32) = BitVec.ofNat 32 p := by
  have : ∀ p : Fin 20, ((nI p.val &&& 31).toBitVec.smod 32) = BitVec.ofNat 32 p.val := by decide
  exact this ⟨p, hp⟩
theorem tb20_0 (x : Int32) (p : Nat) (hp : p < 20) : ((x >>> (nI p &&& 31)) &&& 1 = 0) ↔ TB x p = false := by
  rw [tb_and1]
  unfold TB
  rw [Int32.toBitVec_shiftRight, sh32 p hp, BitVec.sshiftRight_eq', BitVec.getLsbD_sshiftRight]
  have h2 : (BitVec.ofNat 32 p).toNat = p := by rw [BitVec.toNat_ofNat]; omega
  rw [h2, Nat.add_zero]
  simp
  omega
theorem tb20_or (x : Int32) (p j : Nat) (hp : p < 20) (hj : j < 20) : TB (x ||| ((1 : Int32) <<< (nI p &&& 31))) j = (TB x j || decide (j = p)) := by
  rw [tb_or]
  congr 1
  unfold TB
  rw [Int32.toBitVec_shiftLeft, sh32 p hp, BitVec.shiftLeft_eq', BitVec.getLsbD_shiftLeft]
  have h2 : (BitVec.ofNat 32 p).toNat = p := by rw [BitVec.toNat_ofNat]; omega
  rw [h2, show (1 : Int32).toBitVec = 1#32 from rfl, BitVec.getLsbD_one]
  by_cases e : j = p
  · subst e; simp; omega
  · by_cases e2 : j < p
    · simp [e2, e]
    · have : ¬ j - p = 0 := by omega
      simp [e, this]
def qt (la lb fee : Int32) (m : Nat) (s t : Int32 × Int32) : Bool := if m % 2 = 0 then decide (s.1 - la < t.1 - fee) else decide (s.2 - lb < t.2 - fee)
def qn (la lb fee : Int32) (m : Nat) (s t : Int32 × Int32) : Int32 × Int32 := if qt la lb fee m s t = true then (t.1 - (if m % 2 = 0 then fee else 0), t.2 - (if m % 2 = 0 then 0 else fee)) else (s.1 - la, s.2 - lb)
/-- what each has, so many minutes before the end, by how far the clock has gone -/
def qv (la lb wa wb fee : Int32) (n d : Nat) : Nat → Nat → Int32 × Int32
  | 0, g => if g = d then (wa, wb) else (0, 0)
  | r + 1, g => if g = d then (wa, wb) else qn la lb fee (n - (r + 1)) (qv la lb wa wb fee n d r g) (qv la lb wa wb fee n d r (g + 1))
abbrev KQ := Int32 → Int32 → (Nat → Int32) → (Nat → Int32) → (Nat → Int32) → Option ((Nat → Int32) × (Nat → Int32) × (Nat → Int32))
def par (m : Nat) : Int32 := if m % 2 = 0 then 1 else 0
theorem x_wstep (SK : Nat → Int32) (m d way : Nat) (hm : m < 40) (hd : d ≤ 20) (hw : way < d) (k23 : KQ) (T H S : Nat → Int32) :
    g_X5_weigh_23b SK (nI m) (nI d) k23 (par m) (nI way) T H S = k23 (par m) (nI (way + 1)) (if qt (SK 0) (SK 1) (SK 4) m (H way, S way) (H (way + 1), S (way + 1)) = true then upd T m (T m ||| (1 <<< (nI way &&& 31))) else T) (upd H way (qn (SK 0) (SK 1) (SK 4) m (H way, S way) (H (way + 1), S (way + 1))).1) (upd S way (qn (SK 0) (SK 1) (SK 4) m (H way, S way) (H (way + 1), S (way + 1))).2) := by
  unfold g_X5_weigh_23b g_X5_weigh_76 g_X5_weigh_100 g_X5_weigh_135 g_X5_weigh_155 g_X5_weigh_174 g_X5_weigh_193 par qn qt
  by_cases e : m % 2 = 0
  · simp only [if_pos e]
    simp (disch := omega) only [n_z1, n_z2, n_z3, n_z4, n_z5, n_z6, n_z7, n_z8, n_leL, n_leR, n_ltL, n_ltR, n_eqL, n_eqR, n_m1R, n_addL, n_addR, n_mulL, n_mulR, n_subR, n_subL, n_add, n_mul, n_neg, n_sub, n_le, n_lt, n_eq, nI_clamp, if_true, if_false, if_pos, if_neg, or_false, false_or, not_false_eq_true, not_true_eq_false]
    by_cases c : H way - SK 0 < H (way + 1) - SK 4
    · rw [if_neg (Int32.not_le.mpr c)]
      simp [c]
    · rw [if_pos (Int32.not_lt.mp c)]
      simp [c]
  · simp only [if_neg e]
    simp (disch := omega) only [n_z1, n_z2, n_z3, n_z4, n_z5, n_z6, n_z7, n_z8, n_leL, n_leR, n_ltL, n_ltR, n_eqL, n_eqR, n_m1R, n_addL, n_addR, n_mulL, n_mulR, n_subR, n_subL, n_add, n_mul, n_neg, n_sub, n_le, n_lt, n_eq, nI_clamp, if_true, if_false, if_pos, if_neg, or_false, false_or, not_false_eq_true, not_true_eq_false]
    by_cases c : S way - SK 1 < S (way + 1) - SK 4
    · rw [if_neg (Int32.not_le.mpr c)]
      simp [c]
    · rw [if_pos (Int32.not_lt.mp c)]
      simp [c]
section
variable {SK : Nat → Int32} {n d : Nat}
theorem x_wloop (m : Nat) (hm : m < 40) (hd : d ≤ 20) (H0 S0 : Nat → Int32) : ∀ (j z way : Nat) (T H S : Nat → Int32), d - way = j → j < z → way ≤ d →
    (∀ i, i ≤ d → H i = if i < way then (qn (SK 0) (SK 1) (SK 4) m (H0 i, S0 i) (H0 (i + 1), S0 (i + 1))).1 else H0 i) → (∀ i, i ≤ d → S i = if i < way then (qn (SK 0) (SK 1) (SK 4) m (H0 i, S0 i) (H0 (i + 1), S0 (i + 1))).2 else S0 i) →
    (∀ i, i < d → TB (T m) i = (decide (i < way) && qt (SK 0) (SK 1) (SK 4) m (H0 i, S0 i) (H0 (i + 1), S0 (i + 1)))) →
    ∃ T' H' S', g_X5_weigh_23 SK (nI m) (nI d) z (par m) (nI way) T H S = some (T', H', S') ∧ (∀ i, i ≠ m → T' i = T i) ∧
      (∀ i, i ≤ d → H' i = if i < d then (qn (SK 0) (SK 1) (SK 4) m (H0 i, S0 i) (H0 (i + 1), S0 (i + 1))).1 else H0 i) ∧ (∀ i, i ≤ d → S' i = if i < d then (qn (SK 0) (SK 1) (SK 4) m (H0 i, S0 i) (H0 (i + 1), S0 (i + 1))).2 else S0 i) ∧
      (∀ i, i < d → TB (T' m) i = qt (SK 0) (SK 1) (SK 4) m (H0 i, S0 i) (H0 (i + 1), S0 (i + 1)))
  | _, 0, _, _, _, _, _, h, _, _, _, _ => absurd h (Nat.not_lt_zero _)
  | j, z + 1, way, T, H, S, h1, h2, h3, h4, h5, h6 => by
    rw [g_X5_weigh_23]
    by_cases e : d ≤ way
    · have hw : way = d := by omega
      subst hw
      unfold g_X5_weigh_23b
      rw [if_pos (show nI way ≤ nI way by simp (disch := omega) only [n_z1, n_z2, n_z3, n_z4, n_z5, n_z6, n_z7, n_z8, n_leL, n_leR, n_ltL, n_ltR, n_eqL, n_eqR, n_m1R, n_addL, n_addR, n_mulL, n_mulR, n_subR, n_subL, n_add, n_mul, n_neg, n_sub, n_le, n_lt, n_eq, nI_clamp, if_true, if_false, if_pos, if_neg, or_false, false_or, not_false_eq_true, not_true_eq_false]; omega)]
      exact ⟨T, H, S, rfl, fun _ _ => rfl, h4, h5, fun i hi => by rw [h6 i hi]; simp [hi]⟩
    · rw [x_wstep SK m d way hm hd (by omega)]
      have e1 : H way = H0 way := by rw [h4 way (by omega), if_neg (by omega)]
      have e2 : H (way + 1) = H0 (way + 1) := by rw [h4 (way + 1) (by omega), if_neg (by omega)]
      have e3 : S way = S0 way := by rw [h5 way (by omega), if_neg (by omega)]
      have e4 : S (way + 1) = S0 (way + 1) := by rw [h5 (way + 1) (by omega), if_neg (by omega)]
      rw [e1, e2, e3, e4]
      generalize hT1 : (if qt (SK 0) (SK 1) (SK 4) m (H0 way, S0 way) (H0 (way + 1), S0 (way + 1)) = true then upd T m (T m ||| (1 <<< (nI way &&& 31))) else T) = T1
      have g0 : ∀ i, i ≠ m → T1 i = T i := by
        intro i hi
        rw [← hT1]
        split
        · rw [upd_eq, if_neg hi]
        · rfl
      have g4 : ∀ i, i ≤ d → upd H way (qn (SK 0) (SK 1) (SK 4) m (H0 way, S0 way) (H0 (way + 1), S0 (way + 1))).1 i = if i < way + 1 then (qn (SK 0) (SK 1) (SK 4) m (H0 i, S0 i) (H0 (i + 1), S0 (i + 1))).1 else H0 i := by
        intro i hi
        rw [upd_eq]
        by_cases c : i = way
        · subst c; rw [if_pos rfl, if_pos (by omega)]
        · rw [if_neg c, h4 i hi]
          by_cases c2 : i < way
          · rw [if_pos c2, if_pos (by omega)]
          · rw [if_neg c2, if_neg (by omega)]
      have g5 : ∀ i, i ≤ d → upd S way (qn (SK 0) (SK 1) (SK 4) m (H0 way, S0 way) (H0 (way + 1), S0 (way + 1))).2 i = if i < way + 1 then (qn (SK 0) (SK 1) (SK 4) m (H0 i, S0 i) (H0 (i + 1), S0 (i + 1))).2 else S0 i := by
        intro i hi
        rw [upd_eq]
        by_cases c : i = way
        · subst c; rw [if_pos rfl, if_pos (by omega)]
        · rw [if_neg c, h5 i hi]
          by_cases c2 : i < way
          · rw [if_pos c2, if_pos (by omega)]
          · rw [if_neg c2, if_neg (by omega)]
      have g6 : ∀ i, i < d → TB (T1 m) i = (decide (i < way + 1) && qt (SK 0) (SK 1) (SK 4) m (H0 i, S0 i) (H0 (i + 1), S0 (i + 1))) := by
        intro i hi
        rw [← hT1]
        by_cases c3 : qt (SK 0) (SK 1) (SK 4) m (H0 way, S0 way) (H0 (way + 1), S0 (way + 1)) = true
        · rw [if_pos c3, upd_eq, if_pos rfl, tb20_or _ _ _ (by omega) (by omega), h6 i hi]
          by_cases c : i = way
          · subst c; rw [c3]; simp
          · by_cases c2 : i < way
            · simp [c, c2, show i < way + 1 by omega]
            · simp [c, c2, show ¬ i < way + 1 by omega]
        · rw [if_neg c3, h6 i hi]
          by_cases c : i = way
          · subst c
            have : qt (SK 0) (SK 1) (SK 4) m (H0 i, S0 i) (H0 (i + 1), S0 (i + 1)) = false := by simpa using c3
            rw [this]; simp
          · by_cases c2 : i < way
            · simp [c2, show i < way + 1 by omega]
            · simp [c2, show ¬ i < way + 1 by omega]
      obtain ⟨T', H', S', q1, q2, q3, q4, q5⟩ := x_wloop m hm hd H0 S0 (j - 1) z (way + 1) T1 _ _ (by omega) (by omega) (by omega) g4 g5 g6
      exact ⟨T', H', S', q1, fun i hi => by rw [q2 i hi, g0 i hi], q3, q4, q5⟩
theorem x_weigh (m : Nat) (hm : m < 40) (hd : d ≤ 20) (T H0 S0 : Nat → Int32) :
    ∃ T' H' S', g_X5_weigh SK (nI m) (nI d) T H0 S0 = some (T', H', S') ∧ (∀ i, i ≠ m → T' i = T i) ∧
      (∀ i, i ≤ d → H' i = if i < d then (qn (SK 0) (SK 1) (SK 4) m (H0 i, S0 i) (H0 (i + 1), S0 (i + 1))).1 else H0 i) ∧ (∀ i, i ≤ d → S' i = if i < d then (qn (SK 0) (SK 1) (SK 4) m (H0 i, S0 i) (H0 (i + 1), S0 (i + 1))).2 else S0 i) ∧
      (∀ i, i < d → TB (T' m) i = qt (SK 0) (SK 1) (SK 4) m (H0 i, S0 i) (H0 (i + 1), S0 (i + 1))) := by
  obtain ⟨T', H', S', q1, q2, q3, q4, q5⟩ := x_wloop (SK := SK) (d := d) m hm hd H0 S0 d zF 0 (upd T m 0) H0 S0 rfl (by show _ < 65536; omega) (by omega) (fun i hi => by rw [if_neg (by omega)]) (fun i hi => by rw [if_neg (by omega)]) (fun i hi => by rw [upd_eq, if_pos rfl, tb_0]; simp)
  refine ⟨T', H', S', ?_, fun i hi => by rw [q2 i hi, upd_eq, if_neg hi], q3, q4, q5⟩
  have q1' : g_X5_weigh_11 SK (nI m) (nI d) (par m) T H0 S0 = some (T', H', S') := by
    unfold g_X5_weigh_11
    simp (disch := omega) only [n_z1, n_z2, n_z3, n_z4, n_z5, n_z6, n_z7, n_z8, n_leL, n_leR, n_ltL, n_ltR, n_eqL, n_eqR, n_m1R, n_addL, n_addR, n_mulL, n_mulR, n_subR, n_subL, n_add, n_mul, n_neg, n_sub, n_le, n_lt, n_eq, nI_clamp, if_true, if_false, if_pos, if_neg, or_false, false_or, not_false_eq_true, not_true_eq_false]
    exact q1
  have hmod : nI m - nI m / 2 * 2 = nI (m % 2) := by
    rw [show (2 : Int32) = nI 2 from rfl, n_div (by omega) (by omega) (by omega)]
    simp (disch := omega) only [n_z1, n_z2, n_z3, n_z4, n_z5, n_z6, n_z7, n_z8, n_leL, n_leR, n_ltL, n_ltR, n_eqL, n_eqR, n_m1R, n_addL, n_addR, n_mulL, n_mulR, n_subR, n_subL, n_add, n_mul, n_neg, n_sub, n_le, n_lt, n_eq, nI_clamp, if_true, if_false, if_pos, if_neg, or_false, false_or, not_false_eq_true, not_true_eq_false]
    congr 1
    omega
  unfold g_X5_weigh
  rw [hmod]
  unfold par at q1'
  by_cases e : m % 2 = 0
  · rw [if_pos (by rw [e]; rfl)]
    rw [if_pos e] at q1'
    exact q1'
  · rw [if_neg (by simp (disch := omega) only [n_z1, n_z2, n_z3, n_z4, n_z5, n_z6, n_z7, n_z8, n_leL, n_leR, n_ltL, n_ltR, n_eqL, n_eqR, n_m1R, n_addL, n_addR, n_mulL, n_mulR, n_subR, n_subL, n_add, n_mul, n_neg, n_sub, n_le, n_lt, n_eq, nI_clamp, if_true, if_false, if_pos, if_neg, or_false, false_or, not_false_eq_true, not_true_eq_false]; exact e)]
    rw [if_neg e] at q1'
    exact q1'
end
