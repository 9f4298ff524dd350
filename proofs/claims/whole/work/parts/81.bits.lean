/-! THE PLAN: steps packed in longs -/
def SB (x : Int64) (i s : Nat) : Prop := ∀ b, b < 3 → x.toBitVec.getLsbD (3 * i + b) = s.testBit b
theorem sh_amt (i : Nat) (hi : i < 20) : ((((nI (3 * i)).toInt64 &&& 63).toBitVec.smod 64)) = BitVec.ofNat 64 (3 * i) := by
  have : ∀ i : Fin 20, ((((nI (3 * i.val)).toInt64 &&& 63).toBitVec.smod 64)) = BitVec.ofNat 64 (3 * i.val) := by decide
  exact this ⟨i, hi⟩
theorem nI_bit (s q : Nat) (hs : s < 8) (hq : q < 64) : (nI s).toInt64.toBitVec.getLsbD q = s.testBit q := by
  have h1 : (nI s).toInt64.toBitVec = BitVec.ofNat 64 s := by
    have : ∀ s : Fin 8, (nI s.val).toInt64.toBitVec = BitVec.ofNat 64 s.val := by decide
    exact this ⟨s, hs⟩
  rw [h1, BitVec.getLsbD_ofNat]
  simp [hq]
theorem tb_big (s q : Nat) (hs : s < 8) (hq : 3 ≤ q) : s.testBit q = false := by
  apply Nat.testBit_lt_two_pow
  have : 2 ^ 3 ≤ 2 ^ q := Nat.pow_le_pow_right (by omega) hq
  omega
theorem sb_or (x : Int64) (i j s t : Nat) (hi : i < 20) (hj : j < 20) (hs : s < 8) (h : SB x j t) (h0 : j = i → t = 0) : SB (x ||| ((nI s).toInt64 <<< ((nI (3 * i)).toInt64 &&& 63))) j (if j = i then s else t) := by
  intro b hb
  rw [Int64.toBitVec_or, Int64.toBitVec_shiftLeft, sh_amt i hi, BitVec.getLsbD_or, h b hb, BitVec.shiftLeft_eq', BitVec.getLsbD_shiftLeft]
  have hn : (BitVec.ofNat 64 (3 * i)).toNat = 3 * i := by rw [BitVec.toNat_ofNat]; omega
  rw [hn]
  by_cases e : j = i
  · subst e
    rw [if_pos rfl, h0 rfl, Nat.zero_testBit, Bool.false_or, show 3 * j + b - 3 * j = b by omega, nI_bit s b hs (by omega)]
    simp
    omega
  · rw [if_neg e]
    by_cases e2 : j < i
    · have : decide (3 * j + b < 3 * i) = true := by simp; omega
      rw [this]
      simp
    · rw [nI_bit s (3 * j + b - 3 * i) hs (by omega), tb_big s _ hs (by omega)]
      simp
theorem sb_get (x : Int64) (i s : Nat) (hi : i < 20) (hs : s < 8) (h : SB x i s) : (((x >>> ((nI (3 * i)).toInt64 &&& 63)).toInt32) &&& 7) = nI s := by
  apply Int32.toBitVec_inj.mp
  apply BitVec.eq_of_getLsbD_eq
  intro q hq
  have h1 : (nI s).toBitVec.getLsbD q = s.testBit q := by
    have : ∀ s : Fin 8, (nI s.val).toBitVec = BitVec.ofNat 32 s.val := by decide
    rw [this ⟨s, hs⟩, BitVec.getLsbD_ofNat]
    simp [hq]
  have h7 : (7 : Int32).toBitVec.getLsbD q = decide (q < 3) := by
    rcases (show q = 0 ∨ q = 1 ∨ q = 2 ∨ 3 ≤ q by omega) with e | e | e | e
    · subst e; rfl
    · subst e; rfl
    · subst e; rfl
    · rw [show (7 : Int32).toBitVec = BitVec.ofNat 32 7 from rfl, BitVec.getLsbD_ofNat, tb_big 7 q (by omega) e]
      simp; omega
  rw [Int32.toBitVec_and, BitVec.getLsbD_and, h1, h7, Int64.toBitVec_toInt32, BitVec.getLsbD_signExtend, Int64.toBitVec_shiftRight, sh_amt i hi, BitVec.sshiftRight_eq', BitVec.getLsbD_sshiftRight]
  have hn : (BitVec.ofNat 64 (3 * i)).toNat = 3 * i := by rw [BitVec.toNat_ofNat]; omega
  rw [hn]
  by_cases e : q < 3
  · have := h q e
    rw [BitVec.getLsbD_eq_getElem (show 3 * i + q < 64 by omega)] at this
    simp [hq, e, show q < 64 by omega, show 3 * i + q < 64 by omega, show ¬ 64 ≤ q by omega, this]
  · rw [tb_big s q hs (by omega)]
    simp [e]
