/-! THE DAY: bits of small sets; who talks when -/
def TB (x : Int32) (p : Nat) : Bool := x.toBitVec.getLsbD p
theorem tb_and1 (x : Int32) : (x &&& 1 = 0) ↔ TB x 0 = false := by
  unfold TB
  constructor
  · intro h
    have h1 := congrArg (fun y : Int32 => y.toBitVec.getLsbD 0) h
    simp at h1
    simpa using h1
  · intro h
    apply Int32.toBitVec_inj.mp
    apply BitVec.eq_of_getLsbD_eq
    intro i hi
    rw [Int32.toBitVec_and, BitVec.getLsbD_and]
    by_cases e : i = 0
    · subst e; rw [h]; rfl
    · have : (1 : Int32).toBitVec.getLsbD i = false := by
        show (1#32).getLsbD i = false
        rw [BitVec.getLsbD_one]
        simp; omega
      rw [this, Bool.and_false]
      show false = (0#32).getLsbD i
      simp
theorem tb_and1' (x : Int32) : (x &&& 1 = 1) ↔ TB x 0 = true := by
  unfold TB
  constructor
  · intro h
    have h1 := congrArg (fun y : Int32 => y.toBitVec.getLsbD 0) h
    simp at h1
    simpa using h1
  · intro h
    apply Int32.toBitVec_inj.mp
    apply BitVec.eq_of_getLsbD_eq
    intro i hi
    rw [Int32.toBitVec_and, BitVec.getLsbD_and]
    by_cases e : i = 0
    · subst e; rw [h]; rfl
    · have : (1 : Int32).toBitVec.getLsbD i = false := by
        show (1#32).getLsbD i = false
        rw [BitVec.getLsbD_one]
        simp; omega
      rw [this, Bool.and_false]
theorem tb_shr (x : Int32) {p : Nat} (hp : p < 5) : TB (x >>> (nI p &&& 31)) 0 = TB x p := by
  unfold TB
  rw [Int32.toBitVec_shiftRight]
  have : ((nI p &&& 31).toBitVec.smod 32) = BitVec.ofNat 32 p := by
    rcases (show p = 0 ∨ p = 1 ∨ p = 2 ∨ p = 3 ∨ p = 4 by omega) with e | e | e | e | e <;> subst e <;> decide
  rw [this, BitVec.sshiftRight_eq', BitVec.getLsbD_sshiftRight]
  have h2 : (BitVec.ofNat 32 p).toNat = p := by rw [BitVec.toNat_ofNat]; omega
  rw [h2, Nat.add_zero]
  simp
  omega
theorem tb_shl {p p' : Nat} (hp : p < 5) (hp' : p' < 5) : TB ((1 : Int32) <<< (nI p &&& 31)) p' = decide (p' = p) := by
  rcases (show p = 0 ∨ p = 1 ∨ p = 2 ∨ p = 3 ∨ p = 4 by omega) with e | e | e | e | e <;> subst e <;>
  rcases (show p' = 0 ∨ p' = 1 ∨ p' = 2 ∨ p' = 3 ∨ p' = 4 by omega) with e | e | e | e | e <;> subst e <;> decide
theorem tb_or (x y : Int32) (p : Nat) : TB (x ||| y) p = (TB x p || TB y p) := by
  unfold TB
  rw [Int32.toBitVec_or, BitVec.getLsbD_or]
theorem tb_0 (p : Nat) : TB 0 p = false := by
  unfold TB
  show (0#32).getLsbD p = false
  simp
theorem tb_31 {p : Nat} (hp : p < 5) : TB 31 p = true := by
  rcases (show p = 0 ∨ p = 1 ∨ p = 2 ∨ p = 3 ∨ p = 4 by omega) with e | e | e | e | e <;> subst e <;> decide
theorem bit_0 (x : Int32) {p : Nat} (hp : p < 5) : ((x >>> (nI p &&& 31)) &&& 1 = 0) ↔ TB x p = false := by rw [tb_and1, tb_shr x hp]
theorem bit_1 (x : Int32) {p : Nat} (hp : p < 5) : ((x >>> (nI p &&& 31)) &&& 1 = 1) ↔ TB x p = true := by rw [tb_and1', tb_shr x hp]
def tn (x : Int32) : Nat := x.toInt.toNat
theorem tn_nI {x : Int32} (h : 0 ≤ x.toInt) : x = nI (tn x) := (n_to h).1
theorem tn_of {k : Nat} (h : k < 2 ^ 31) : tn (nI k) = k := by unfold tn; rw [nI_toInt h]; simp
/-- whether one talks in a minute, by the first so many talks -/
def tk (w : Nat → Int32) (p m : Nat) : Nat → Bool
  | 0 => false
  | t + 1 => tk w p m t || (decide (tn (w (23 + t)) = p) && (decide (tn (w (39 + t)) ≤ m) && decide (m < tn (w (55 + t)))))
theorem x_fill0 (N : Nat) (hN : N < 2000) (x : Int32) : ∀ (k n i : Nat) (f : Nat → Int32), N - i = k → k < n → i ≤ N → g_J7_fill_53178_5 N x n (nI i) (nI N) f = some (fun j => if i ≤ j ∧ j < N then x else f j)
  | _, 0, _, _, _, h, _ => absurd h (Nat.not_lt_zero _)
  | k, n + 1, i, f, h1, h2, h3 => by
    rw [g_J7_fill_53178_5]
    unfold g_J7_fill_53178_5b
    by_cases e : N ≤ i
    · simp (disch := omega) only [n_z1, n_z2, n_z3, n_z4, n_z5, n_z6, n_z7, n_z8, n_leL, n_leR, n_ltL, n_ltR, n_eqL, n_eqR, n_m1R, n_addL, n_addR, n_mulL, n_mulR, n_subR, n_subL, n_add, n_mul, n_neg, n_sub, n_le, n_lt, n_eq, nI_clamp, if_true, if_false, if_pos, if_neg, or_false, false_or, not_false_eq_true, not_true_eq_false]
    · simp (disch := omega) only [n_z1, n_z2, n_z3, n_z4, n_z5, n_z6, n_z7, n_z8, n_leL, n_leR, n_ltL, n_ltR, n_eqL, n_eqR, n_m1R, n_addL, n_addR, n_mulL, n_mulR, n_subR, n_subL, n_add, n_mul, n_neg, n_sub, n_le, n_lt, n_eq, nI_clamp, if_true, if_false, if_pos, if_neg, or_false, false_or, not_false_eq_true, not_true_eq_false]
      rw [x_fill0 N hN x (k - 1) n (i + 1) _ (by omega) (by omega) (by omega)]
      congr 1
      funext j
      rw [upd_eq]
      by_cases e1 : j = i
      · subst e1
        rw [if_neg (by omega), if_pos rfl, if_pos (by omega)]
      · by_cases e2 : i ≤ j ∧ j < N
        · rw [if_pos (by omega), if_pos e2]
        · rw [if_neg (by omega), if_neg e1, if_neg e2]
theorem x_fill (N : Nat) (hN : N < 2000) (x : Int32) (f : Nat → Int32) : g_J7_fill_53178 N x f = some (fun j => if j < N then x else f j) := by
  have h := x_fill0 N hN x N zF 0 f rfl (by show N < 65536; omega) (by omega)
  have e : g_J7_fill_53178 N x f = g_J7_fill_53178_5 N x zF (nI 0) (nI N) f := rfl
  rw [e, h]
  congr 1
  funext j
  simp
section
variable {N n k : Nat} {f : Nat → Int32}
theorem x_at20 (hk : k < n) (hn : n ≤ 40) (hN : 2 * n ≤ N) (hN2 : N ≤ 1000) : g_X7_at N 2 (nI n) f (nI k) 0 = some (f (2 * k)) := by
  have := p_at (N := N) (n := n) (w := 2) (k := k) (c := 0) (f := f) (W9 := 2) (C9 := 0) rfl rfl hk (by omega) (by omega) (by omega) hN hN2
  rw [this, Nat.add_zero, Nat.mul_comm]
theorem x_at21 (hk : k < n) (hn : n ≤ 40) (hN : 2 * n ≤ N) (hN2 : N ≤ 1000) : g_X7_at N 2 (nI n) f (nI k) 1 = some (f (2 * k + 1)) := by
  have := p_at (N := N) (n := n) (w := 2) (k := k) (c := 1) (f := f) (W9 := 2) (C9 := 1) rfl rfl hk (by omega) (by omega) (by omega) hN hN2
  rw [this, Nat.mul_comm]
theorem x_at30 (hk : k < n) (hn : n ≤ 40) (hN : 3 * n ≤ N) (hN2 : N ≤ 1000) : g_X7_at N 3 (nI n) f (nI k) 0 = some (f (3 * k)) := by
  have := p_at (N := N) (n := n) (w := 3) (k := k) (c := 0) (f := f) (W9 := 3) (C9 := 0) rfl rfl hk (by omega) (by omega) (by omega) hN hN2
  rw [this, Nat.add_zero, Nat.mul_comm]
theorem x_at31 (hk : k < n) (hn : n ≤ 40) (hN : 3 * n ≤ N) (hN2 : N ≤ 1000) : g_X7_at N 3 (nI n) f (nI k) 1 = some (f (3 * k + 1)) := by
  have := p_at (N := N) (n := n) (w := 3) (k := k) (c := 1) (f := f) (W9 := 3) (C9 := 1) rfl rfl hk (by omega) (by omega) (by omega) hN hN2
  rw [this, Nat.mul_comm]
theorem x_at32 (hk : k < n) (hn : n ≤ 40) (hN : 3 * n ≤ N) (hN2 : N ≤ 1000) : g_X7_at N 3 (nI n) f (nI k) 2 = some (f (3 * k + 2)) := by
  have := p_at (N := N) (n := n) (w := 3) (k := k) (c := 2) (f := f) (W9 := 3) (C9 := 2) rfl rfl hk (by omega) (by omega) (by omega) hN hN2
  rw [this, Nat.mul_comm]
end
/-- the class's row of who talks -/
def TKX (w : Nat → Int32) (t : Nat) (T : Nat → Int32) : Prop := ∀ m, m < 240 → ∀ p, p < 5 → TB (T m) p = tk w p m t
section
variable {w c1 : Nat → Int32}
theorem x_fill76 (s : Int32) (k10 : Int32 → (Nat → Int32) → Option (Nat → Int32)) (x1 b : Int32) (e : Nat) (he : e ≤ 240) : ∀ (k n m : Nat) (T : Nat → Int32), e - m = k → k < n → m ≤ 240 → g_X1_fillTalkers_76 48 3 s c1 k10 n x1 b (nI e) (nI m) T = k10 (x1 + 1) (fun j => if m ≤ j ∧ j < e then T j ||| b else T j)
  | _, 0, _, _, _, h, _ => absurd h (Nat.not_lt_zero _)
  | k, n + 1, m, T, h1, h2, h3 => by
    rw [g_X1_fillTalkers_76]
    unfold g_X1_fillTalkers_76b
    by_cases e1 : e ≤ m
    · simp (disch := omega) only [n_z1, n_z2, n_z3, n_z4, n_z5, n_z6, n_z7, n_z8, n_leL, n_leR, n_ltL, n_ltR, n_eqL, n_eqR, n_m1R, n_addL, n_addR, n_mulL, n_mulR, n_subR, n_subL, n_add, n_mul, n_neg, n_sub, n_le, n_lt, n_eq, nI_clamp, if_true, if_false, if_pos, if_neg, or_false, false_or, not_false_eq_true, not_true_eq_false]
    · simp (disch := omega) only [n_z1, n_z2, n_z3, n_z4, n_z5, n_z6, n_z7, n_z8, n_leL, n_leR, n_ltL, n_ltR, n_eqL, n_eqR, n_m1R, n_addL, n_addR, n_mulL, n_mulR, n_subR, n_subL, n_add, n_mul, n_neg, n_sub, n_le, n_lt, n_eq, nI_clamp, if_true, if_false, if_pos, if_neg, or_false, false_or, not_false_eq_true, not_true_eq_false]
      rw [x_fill76 s k10 x1 b e he (k - 1) n (m + 1) _ (by omega) (by omega) (by omega)]
      congr 1
      funext j
      rw [upd_eq]
      by_cases e2 : j = m
      · subst e2
        rw [if_neg (by omega), if_pos rfl, if_pos (by omega)]
      · by_cases e3 : m ≤ j ∧ j < e
        · rw [if_pos (by omega), if_pos e3, if_neg e2]
        · rw [if_neg (by omega), if_neg e2, if_neg e3]
/-- what the numbers of a talk are -/
def TG (w : Nat → Int32) (np nt : Nat) : Prop := ∀ t, t < nt → (0 ≤ (w (23 + t)).toInt ∧ (w (23 + t)).toInt < np) ∧ (0 ≤ (w (39 + t)).toInt ∧ (w (39 + t)).toInt < (w (55 + t)).toInt ∧ (w (55 + t)).toInt ≤ 240)
theorem x_fill10 {np nt : Nat} (hnp : np ≤ 5) (hnt : nt ≤ 16) (hG : TG w np nt) (hc : ∀ t, t < nt → c1 (3 * t) = w (23 + t) ∧ c1 (3 * t + 1) = w (39 + t) ∧ c1 (3 * t + 2) = w (55 + t)) :
    ∀ (k n t : Nat) (T : Nat → Int32), nt - t = k → k < n → t ≤ nt → TKX w t T → ∃ T', g_X1_fillTalkers_10 48 3 (nI nt) c1 n (nI t) T = some T' ∧ TKX w nt T'
  | _, 0, _, _, _, h, _, _ => absurd h (Nat.not_lt_zero _)
  | k, n + 1, t, T, h1, h2, h3, h4 => by
    rw [g_X1_fillTalkers_10]
    unfold g_X1_fillTalkers_10b
    show ∃ T', (some (nI nt)).bind _ = _ ∧ _
    rw [pb_some]
    by_cases e : nt ≤ t
    · simp (disch := omega) only [n_z1, n_z2, n_z3, n_z4, n_z5, n_z6, n_z7, n_z8, n_leL, n_leR, n_ltL, n_ltR, n_eqL, n_eqR, n_m1R, n_addL, n_addR, n_mulL, n_mulR, n_subR, n_subL, n_add, n_mul, n_neg, n_sub, n_le, n_lt, n_eq, nI_clamp, if_true, if_false, if_pos, if_neg, or_false, false_or, not_false_eq_true, not_true_eq_false]
      have : t = nt := by omega
      subst this
      exact ⟨T, rfl, h4⟩
    · have hg := hG t (by omega)
      have hc' := hc t (by omega)
      rw [if_neg (by simp (disch := omega) only [n_z1, n_z2, n_z3, n_z4, n_z5, n_z6, n_z7, n_z8, n_leL, n_leR, n_ltL, n_ltR, n_eqL, n_eqR, n_m1R, n_addL, n_addR, n_mulL, n_mulR, n_subR, n_subL, n_add, n_mul, n_neg, n_sub, n_le, n_lt, n_eq, nI_clamp, if_true, if_false, if_pos, if_neg, or_false, false_or, not_false_eq_true, not_true_eq_false]; omega)]
      rw [x_at30 (by omega) (by omega) (by omega) (by omega), pb_some, x_at32 (by omega) (by omega) (by omega) (by omega), pb_some, x_at31 (by omega) (by omega) (by omega) (by omega), pb_some, hc'.1, hc'.2.1, hc'.2.2]
      have g1 := tn_nI hg.1.1
      have g2 := tn_nI hg.2.1
      have g3 := tn_nI (x := w (55 + t)) (by omega)
      have l1 : tn (w (23 + t)) < 5 := by unfold tn; omega
      have l2 : tn (w (39 + t)) < tn (w (55 + t)) := by unfold tn; omega
      have l3 : tn (w (55 + t)) ≤ 240 := by unfold tn; omega
      have m1 : (if (240 : Int32) < w (55 + t) then (240 : Int32) else w (55 + t)) = nI (tn (w (55 + t))) := by
        rw [g3, if_neg, tn_of (by omega)]
        simp (disch := omega) only [n_z1, n_z2, n_z3, n_z4, n_z5, n_z6, n_z7, n_z8, n_leL, n_leR, n_ltL, n_ltR, n_eqL, n_eqR, n_m1R, n_addL, n_addR, n_mulL, n_mulR, n_subR, n_subL, n_add, n_mul, n_neg, n_sub, n_le, n_lt, n_eq, nI_clamp, if_true, if_false, if_pos, if_neg, or_false, false_or, not_false_eq_true, not_true_eq_false]; omega
      have m2 : (if w (39 + t) < (0 : Int32) then (0 : Int32) else w (39 + t)) = nI (tn (w (39 + t))) := by
        rw [g2, if_neg, tn_of (by omega)]
        simp (disch := omega) only [n_z1, n_z2, n_z3, n_z4, n_z5, n_z6, n_z7, n_z8, n_leL, n_leR, n_ltL, n_ltR, n_eqL, n_eqR, n_m1R, n_addL, n_addR, n_mulL, n_mulR, n_subR, n_subL, n_add, n_mul, n_neg, n_sub, n_le, n_lt, n_eq, nI_clamp, if_true, if_false, if_pos, if_neg, or_false, false_or, not_false_eq_true, not_true_eq_false]
        omega
      rw [m1, m2, x_fill76 (nI nt) _ (nI t) _ _ l3 _ zF (tn (w (39 + t))) T rfl (by show _ < 65536; omega) (by omega), n_addR]
      refine x_fill10 hnp hnt hG hc (k - 1) n (t + 1) _ (by omega) (by omega) (by omega) ?_
      intro m hm p hp
      dsimp only
      rw [tk]
      by_cases e5 : tn (w (39 + t)) ≤ m ∧ m < tn (w (55 + t))
      · rw [if_pos e5, tb_or, h4 m hm p hp]
        rw [show (1 : Int32) <<< (w (23 + t) &&& 31) = (1 : Int32) <<< (nI (tn (w (23 + t))) &&& 31) by rw [← g1], tb_shl l1 hp]
        simp [e5.1, e5.2, eq_comm]
      · rw [if_neg e5, h4 m hm p hp]
        by_cases e6 : tn (w (39 + t)) ≤ m
        · simp [show ¬ m < tn (w (55 + t)) by omega]
        · simp [e6]
theorem x_talkers {np nt : Nat} (hnp : np ≤ 5) (hnt : nt ≤ 16) (hG : TG w np nt) (hc : ∀ t, t < nt → c1 (3 * t) = w (23 + t) ∧ c1 (3 * t + 1) = w (39 + t) ∧ c1 (3 * t + 2) = w (55 + t)) (T : Nat → Int32) : ∃ T', g_X1_fillTalkers 48 3 (nI nt) c1 T = some T' ∧ TKX w nt T' := by
  unfold g_X1_fillTalkers
  rw [x_fill 240 (by omega), pb_some]
  refine x_fill10 hnp hnt hG hc nt zF 0 _ rfl (by show _ < 65536; omega) (by omega) ?_
  intro m hm p hp
  dsimp only
  rw [if_pos hm, tb_0]; rfl
end
