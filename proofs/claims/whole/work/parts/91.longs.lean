/-! NIGHTS: long numbers from naturals, and digits -/
def nL (n : Nat) : Int64 := Int64.ofNat n
theorem nL_toInt {n : Nat} (h : n < 2 ^ 63) : (nL n).toInt = n := Int64.toInt_ofNat_of_lt h
theorem nL_of {x : Int64} {k : Nat} (h : x.toInt = (k : Int)) : x = nL k := by
  apply Int64.toInt_inj.mp
  have h2 : x.toInt < 2 ^ 63 := Int64.toInt_lt x
  rw [nL_toInt (by omega), h]
theorem nL_add (a b : Nat) : nL a + nL b = nL (a + b) := (Int64.ofNat_add a b).symm
theorem nL_mul (a b : Nat) : nL a * nL b = nL (a * b) := (Int64.ofNat_mul a b).symm
theorem nL_sub {a b : Nat} (h : b ≤ a) : nL a - nL b = nL (a - b) := by
  obtain ⟨k, rfl⟩ : ∃ k, a = k + b := ⟨a - b, by omega⟩
  rw [Nat.add_sub_cancel, ← nL_add]
  simp [Int64.add_sub_cancel]
theorem nL_div {a b : Nat} (ha : a < 2 ^ 63) (hb : b < 2 ^ 63) : nL a / nL b = nL (a / b) := by
  apply nL_of
  have hle : a / b ≤ a := Nat.div_le_self a b
  rw [Int64.toInt_div, nL_toInt ha, nL_toInt hb, show (a : Int).tdiv (b : Int) = ((a / b : Nat) : Int) from rfl]
  generalize a / b = q at hle ⊢
  rw [Int.bmod_eq_of_le (by omega) (by omega)]
theorem nL_mod {a b : Nat} (ha : a < 2 ^ 63) (hb : b < 2 ^ 63) : nL a - nL a / nL b * nL b = nL (a % b) := by
  have h := Nat.div_add_mod a b
  rw [Nat.mul_comm] at h
  rw [nL_div ha hb, nL_mul, nL_sub (by omega)]
  congr 1
  omega
theorem nL_eq {a b : Nat} (ha : a < 2 ^ 63) (hb : b < 2 ^ 63) : (nL a = nL b) = (a = b) := by
  apply propext
  constructor
  · intro h
    have := congrArg Int64.toInt h
    rw [nL_toInt ha, nL_toInt hb] at this
    omega
  · intro h; rw [h]
theorem nL_n {n : Nat} (h : n < 2 ^ 31) : (nI n).toInt64 = nL n := by
  apply nL_of
  rw [Int32.toInt_toInt64, nI_toInt h]
theorem nL_i (n : Nat) : (nL n).toInt32 = nI n := Int64.toInt32_ofNat'
theorem nL_toNat {n : Nat} (h : n < 2 ^ 63) : (nL n).toBitVec.toNat = n := by
  show (BitVec.ofNat 64 n).toNat = n
  rw [BitVec.toNat_ofNat]
  omega
theorem nL_bv {x : Int64} {n : Nat} (hn : n < 2 ^ 63) (h : x.toBitVec.toNat = n) : x = nL n := by
  apply Int64.toBitVec_inj.mp
  apply BitVec.eq_of_toNat_eq
  rw [h, nL_toNat hn]
theorem nL_and {n : Nat} (h : n < 2 ^ 63) : nL n &&& (1073741823 : Int64) = nL (n % 1073741824) := by
  apply nL_bv (by omega)
  rw [Int64.toBitVec_and, BitVec.toNat_and, nL_toNat h]
  exact Nat.and_two_pow_sub_one_eq_mod n 30
theorem nL_shr {n : Nat} (h : n < 2 ^ 63) : nL n >>> ((30 : Int32).toInt64 &&& 63) = nL (n / 1073741824) := by
  have hd : n / 1073741824 ≤ n := Nat.div_le_self n _
  apply nL_bv (by omega)
  rw [Int64.toBitVec_shiftRight]
  have hs : (((30 : Int32).toInt64 &&& 63).toBitVec.smod 64) = 30#64 := by decide
  rw [hs, BitVec.sshiftRight_eq', show (30#64).toNat = 30 from rfl]
  have hm : (nL n).toBitVec.msb = false := by
    rw [BitVec.msb_eq_decide, nL_toNat h]
    simp
    omega
  rw [BitVec.sshiftRight_eq_of_msb_false hm, BitVec.toNat_ushiftRight, nL_toNat h, Nat.shiftRight_eq_div_pow]
theorem nL_shl {a d : Nat} (ha : a < 2 ^ 32) (hd : d < 1073741824) : (nL a <<< ((30 : Int32).toInt64 &&& 63)) ||| nL d = nL (a * 1073741824 + d) := by
  apply nL_bv (by omega)
  rw [Int64.toBitVec_or, BitVec.toNat_or, Int64.toBitVec_shiftLeft]
  have hs : (((30 : Int32).toInt64 &&& 63).toBitVec.smod 64) = 30#64 := by decide
  rw [hs, BitVec.shiftLeft_eq', show (30#64).toNat = 30 from rfl, BitVec.toNat_shiftLeft, nL_toNat (by omega), nL_toNat (by omega), Nat.mod_eq_of_lt (by rw [Nat.shiftLeft_eq]; omega), ← Nat.shiftLeft_add_eq_or_of_lt (i := 30) hd, Nat.shiftLeft_eq]
/-- a digit of a number, and the power below it -/
def PB : Nat → Nat
  | 0 => 1
  | i + 1 => PB i * 1073741824
theorem PB_pos : ∀ i, 0 < PB i
  | 0 => by show 0 < 1; omega
  | i + 1 => by have := PB_pos i; rw [PB]; omega
def dg (v i : Nat) : Nat := v / PB i % 1073741824
theorem dg_lt (v i : Nat) : dg v i < 1073741824 := Nat.mod_lt _ (by omega)
theorem mod_PB (v i : Nat) : v % PB (i + 1) = v % PB i + PB i * dg v i := by
  rw [PB, Nat.mod_mul]; rfl
/-- a sum of two numbers, so many times each, digit by digit -/
def cry (p x q y i : Nat) : Nat := (p * (x % PB i) + q * (y % PB i)) / PB i
theorem cry_0 (p x q y : Nat) : cry p x q y 0 = 0 := by
  unfold cry
  rw [PB, Nat.mod_one, Nat.mod_one]
  simp
theorem mul_mod_lt {p x P : Nat} (hP : 0 < P) : p * (x % P) ≤ p * P := Nat.mul_le_mul_left p (Nat.le_of_lt (Nat.mod_lt x hP))
theorem cry_le (p x q y i : Nat) : cry p x q y i ≤ p + q := by
  have hP := PB_pos i
  unfold cry
  apply Nat.div_le_of_le_mul
  have h1 := mul_mod_lt (p := p) (x := x) hP
  have h2 := mul_mod_lt (p := q) (x := y) hP
  rw [Nat.mul_add, Nat.mul_comm (PB i) p, Nat.mul_comm (PB i) q]
  omega
theorem cry_s (p x q y i : Nat) : cry p x q y (i + 1) = (cry p x q y i + (p * dg x i + q * dg y i)) / 1073741824 := by
  have hP := PB_pos i
  unfold cry
  rw [mod_PB, mod_PB]
  have h : p * (x % PB i + PB i * dg x i) + q * (y % PB i + PB i * dg y i) = (p * (x % PB i) + q * (y % PB i)) + PB i * (p * dg x i + q * dg y i) := by
    simp only [Nat.mul_add, Nat.mul_left_comm]
    omega
  rw [h, PB, ← Nat.div_div_eq_div_mul, Nat.add_mul_div_left _ _ hP]
theorem cry_d (p x q y i : Nat) : dg (p * x + q * y) i = (cry p x q y i + (p * dg x i + q * dg y i)) % 1073741824 := by
  have hP := PB_pos i
  have hx := Nat.div_add_mod x (PB i)
  have hy := Nat.div_add_mod y (PB i)
  have h : p * x + q * y = (p * (x % PB i) + q * (y % PB i)) + PB i * (p * (x / PB i) + q * (y / PB i)) := by
    conv => lhs; rw [← hx, ← hy]
    simp only [Nat.mul_add, Nat.mul_left_comm]
    omega
  unfold dg cry
  rw [h, Nat.add_mul_div_left _ _ hP]
  have ex := Nat.div_add_mod (x / PB i) 1073741824
  have ey := Nat.div_add_mod (y / PB i) 1073741824
  have h2 : p * (x / PB i) + q * (y / PB i) = (p * (x / PB i % 1073741824) + q * (y / PB i % 1073741824)) + 1073741824 * (p * (x / PB i / 1073741824) + q * (y / PB i / 1073741824)) := by
    conv => lhs; rw [← ex, ← ey]
    simp only [Nat.mul_add, Nat.mul_left_comm]
    omega
  rw [h2, ← Nat.add_assoc, Nat.add_mul_mod_self_left]
/-- a number shared, digit by digit from above -/
theorem shr_r (x s i : Nat) (hs : 0 < s) : ((x / PB (i + 1) % s) * 1073741824 + dg x i) % s = x / PB i % s := by
  have h : x / PB i = (x / PB (i + 1)) * 1073741824 + dg x i := by
    have := Nat.div_add_mod (x / PB i) 1073741824
    rw [PB, ← Nat.div_div_eq_div_mul]
    unfold dg
    omega
  rw [h, Nat.add_mod, Nat.mul_mod, Nat.mod_mod, ← Nat.mul_mod, ← Nat.add_mod]
theorem shr_d (x s i : Nat) (hs : 0 < s) : dg (x / s) i = ((x / PB (i + 1) % s) * 1073741824 + dg x i) / s := by
  have h : x / PB i = (x / PB (i + 1)) * 1073741824 + dg x i := by
    have := Nat.div_add_mod (x / PB i) 1073741824
    rw [PB, ← Nat.div_div_eq_div_mul]
    unfold dg
    omega
  have hd := dg_lt x i
  have h1 : x / s / PB i = x / PB i / s := by rw [Nat.div_div_eq_div_mul, Nat.div_div_eq_div_mul, Nat.mul_comm]
  have hy := Nat.div_add_mod (x / PB (i + 1)) s
  have hlt := Nat.mod_lt (x / PB (i + 1)) hs
  rw [show dg (x / s) i = x / s / PB i % 1073741824 from rfl, h1, h]
  have h2 : x / PB (i + 1) * 1073741824 + dg x i = ((x / PB (i + 1) % s) * 1073741824 + dg x i) + s * (x / PB (i + 1) / s * 1073741824) := by
    conv => lhs; rw [← hy]
    rw [Nat.add_mul, Nat.mul_assoc]
    omega
  rw [h2, Nat.add_mul_div_left _ _ hs, Nat.mul_comm (x / PB (i + 1) / s) 1073741824, Nat.add_mul_mod_self_left]
  apply Nat.mod_eq_of_lt
  apply (Nat.div_lt_iff_lt_mul hs).mpr
  have h3 : (x / PB (i + 1) % s + 1) * 1073741824 ≤ s * 1073741824 := Nat.mul_le_mul_right _ hlt
  rw [Nat.mul_comm 1073741824 s]
  omega
