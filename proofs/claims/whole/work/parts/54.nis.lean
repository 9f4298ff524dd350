/-! NUMBERS from naturals: a set of rules that turns a machine's number into a natural one -/
theorem n_lit (n : Nat) : (OfNat.ofNat n : Int32) = nI (OfNat.ofNat n) := rfl
theorem n_le {a b : Nat} (ha : a < 2 ^ 31) (hb : b < 2 ^ 31) : (nI a ≤ nI b) = (a ≤ b) := by
  rw [Int32.le_iff_toInt_le, nI_toInt ha, nI_toInt hb]; simp
theorem n_lt {a b : Nat} (ha : a < 2 ^ 31) (hb : b < 2 ^ 31) : (nI a < nI b) = (a < b) := by
  rw [Int32.lt_iff_toInt_lt, nI_toInt ha, nI_toInt hb]; simp
theorem n_eq {a b : Nat} (ha : a < 2 ^ 31) (hb : b < 2 ^ 31) : (nI a = nI b) = (a = b) := by
  rw [nI_eq ha hb]
theorem n_neg (x : Int32) (y : Int32) : x + -y = x - y := by rw [Int32.sub_eq_add_neg]
theorem n_sub {a b : Nat} (h : b ≤ a) : nI a - nI b = nI (a - b) := by
  obtain ⟨k, rfl⟩ : ∃ k, a = k + b := ⟨a - b, by omega⟩
  rw [Nat.add_sub_cancel, ← nI_add]
  simp [Int32.add_sub_cancel]
theorem n_ge0 {a : Nat} (ha : a < 2 ^ 31) : (nI a < nI 0) = False := by
  rw [n_lt ha (by decide)]; simp
theorem n_m1 {a : Nat} (ha : a < 2 ^ 31) : (nI a = -nI 1) = False := by
  refine eq_false fun h => ?_
  have := congrArg Int32.toInt h
  rw [nI_toInt ha] at this
  have e : (-nI 1 : Int32).toInt = -1 := by decide
  omega
theorem n_mul {a b : Nat} : nI a * nI b = nI (a * b) := pk_mul a b
theorem n_add {a b : Nat} : nI a + nI b = nI (a + b) := nI_add a b
theorem n_of {x : Int32} {k : Nat} (h : x.toInt = (k : Int)) : x = nI k := by
  apply Int32.toInt_inj.mp
  have h2 : x.toInt < 2 ^ 31 := Int32.toInt_lt x
  rw [nI_toInt (by omega), h]
theorem n_to {x : Int32} (h : 0 ≤ x.toInt) : x = nI x.toInt.toNat ∧ x.toInt.toNat < 2 ^ 31 := by
  have h2 : x.toInt < 2 ^ 31 := Int32.toInt_lt x
  exact ⟨n_of (by omega), by omega⟩
section
variable {a n : Nat}
theorem n_leL (hn : (OfNat.ofNat n : Nat) < 2 ^ 31) (ha : a < 2 ^ 31) : ((no_index (OfNat.ofNat n : Int32)) ≤ nI a) = ((OfNat.ofNat n : Nat) ≤ a) := n_le (a := n) (b := a) hn ha
theorem n_leR (hn : (OfNat.ofNat n : Nat) < 2 ^ 31) (ha : a < 2 ^ 31) : (nI a ≤ (no_index (OfNat.ofNat n : Int32))) = (a ≤ (OfNat.ofNat n : Nat)) := n_le (a := a) (b := n) ha hn
theorem n_ltL (hn : (OfNat.ofNat n : Nat) < 2 ^ 31) (ha : a < 2 ^ 31) : ((no_index (OfNat.ofNat n : Int32)) < nI a) = ((OfNat.ofNat n : Nat) < a) := n_lt (a := n) (b := a) hn ha
theorem n_ltR (hn : (OfNat.ofNat n : Nat) < 2 ^ 31) (ha : a < 2 ^ 31) : (nI a < (no_index (OfNat.ofNat n : Int32))) = (a < (OfNat.ofNat n : Nat)) := n_lt (a := a) (b := n) ha hn
theorem n_eqL (hn : (OfNat.ofNat n : Nat) < 2 ^ 31) (ha : a < 2 ^ 31) : ((no_index (OfNat.ofNat n : Int32)) = nI a) = ((OfNat.ofNat n : Nat) = a) := n_eq (a := n) (b := a) hn ha
theorem n_eqR (hn : (OfNat.ofNat n : Nat) < 2 ^ 31) (ha : a < 2 ^ 31) : (nI a = (no_index (OfNat.ofNat n : Int32))) = (a = (OfNat.ofNat n : Nat)) := n_eq (a := a) (b := n) ha hn
theorem n_m1R (ha : a < 2 ^ 31) : (nI a = (-1 : Int32)) = False := n_m1 ha
theorem n_addL : (no_index (OfNat.ofNat n : Int32)) + nI a = nI ((OfNat.ofNat n : Nat) + a) := n_add (a := n) (b := a)
theorem n_addR : nI a + (no_index (OfNat.ofNat n : Int32)) = nI (a + (OfNat.ofNat n : Nat)) := n_add (a := a) (b := n)
theorem n_mulL : (no_index (OfNat.ofNat n : Int32)) * nI a = nI ((OfNat.ofNat n : Nat) * a) := n_mul (a := n) (b := a)
theorem n_mulR : nI a * (no_index (OfNat.ofNat n : Int32)) = nI (a * (OfNat.ofNat n : Nat)) := n_mul (a := a) (b := n)
theorem n_subR (h : (OfNat.ofNat n : Nat) ≤ a) : nI a - (no_index (OfNat.ofNat n : Int32)) = nI (a - (OfNat.ofNat n : Nat)) := n_sub (a := a) (b := n) h
theorem n_subL (h : a ≤ (OfNat.ofNat n : Nat)) : (no_index (OfNat.ofNat n : Int32)) - nI a = nI ((OfNat.ofNat n : Nat) - a) := n_sub (a := n) (b := a) h
end
theorem n_z1 {a : Nat} (ha : a < 2 ^ 31) : (nI a < 0) = False := n_ge0 ha
theorem n_z2 {a : Nat} (ha : a < 2 ^ 31) : (nI a ≤ 0) = (a = 0) := by rw [show (0 : Int32) = nI 0 from rfl, n_le ha (by decide)]; simp
theorem n_z3 {a : Nat} (ha : a < 2 ^ 31) : (0 ≤ nI a) = True := by rw [show (0 : Int32) = nI 0 from rfl, n_le (by decide) ha]; simp
theorem n_z4 {a : Nat} (ha : a < 2 ^ 31) : (0 < nI a) = (0 < a) := by rw [show (0 : Int32) = nI 0 from rfl, n_lt (by decide) ha]
theorem n_z5 {a : Nat} (ha : a < 2 ^ 31) : (nI a = 0) = (a = 0) := by rw [show (0 : Int32) = nI 0 from rfl, n_eq ha (by decide)]
theorem n_z6 {a : Nat} (ha : a < 2 ^ 31) : (0 = nI a) = (0 = a) := by rw [show (0 : Int32) = nI 0 from rfl, n_eq (by decide) ha]
theorem n_z7 {a : Nat} : 0 + nI a = nI a := by rw [show (0 : Int32) = nI 0 from rfl, n_add, Nat.zero_add]
theorem n_z8 {a : Nat} : nI a + 0 = nI a := by rw [show (0 : Int32) = nI 0 from rfl, n_add, Nat.add_zero]
