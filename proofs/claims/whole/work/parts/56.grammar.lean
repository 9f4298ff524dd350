/-! THE RULE: what its signs are, and what parses as what: a grammar, place by place -/
def rkN (x : Int32) : Nat := if x = 124 then 0 else if x = 38 then 1 else if x = 60 ∨ x = 61 ∨ x = 62 then 2 else if x = 43 ∨ x = 45 then 3 else if x = 42 ∨ x = 47 then 4 else 9
def nmN (x : Int32) : Nat := if x = 99 then 0 else if x = 115 then 1 else if x = 111 then 2 else if x = 112 then 3 else if x = 98 then 4 else if x = 102 then 5 else 9
abbrev isDg (x : Int32) : Prop := 48 ≤ x.toInt ∧ x.toInt ≤ 57
abbrev isPf (x : Int32) : Prop := x = 33 ∨ x = 45
theorem x_rankOf (x : Int32) : g_X8_rankOf x = some (if rkN x = 9 then -1 else nI (rkN x)) := by
  unfold g_X8_rankOf rkN
  by_cases h1 : x = 38
  · subst h1; decide
  by_cases h2 : x = 42
  · subst h2; decide
  by_cases h3 : x = 43
  · subst h3; decide
  by_cases h4 : x = 45
  · subst h4; decide
  by_cases h5 : x = 47
  · subst h5; decide
  by_cases h6 : x = 60
  · subst h6; decide
  by_cases h7 : x = 61
  · subst h7; decide
  by_cases h8 : x = 62
  · subst h8; decide
  by_cases h9 : x = 124
  · subst h9; decide
  simp [h1, h2, h3, h4, h5, h6, h7, h8, h9]
theorem rkN_le (x : Int32) : rkN x ≤ 4 ∨ rkN x = 9 := by
  unfold rkN
  repeat' split
  all_goals simp
theorem nmN_le (x : Int32) : nmN x ≤ 5 ∨ nmN x = 9 := by
  unfold nmN
  repeat' split
  all_goals simp
theorem x_nameOf (x : Int32) : g_X8_nameOf x = some (if nmN x = 9 then -1 else nI (nmN x)) := by
  unfold g_X8_nameOf nmN
  by_cases h1 : x = 99
  · subst h1; decide
  by_cases h2 : x = 115
  · subst h2; decide
  by_cases h3 : x = 111
  · subst h3; decide
  by_cases h4 : x = 112
  · subst h4; decide
  by_cases h5 : x = 98
  · subst h5; decide
  by_cases h6 : x = 102
  · subst h6; decide
  simp [h1, h2, h3, h4, h5, h6]
theorem x_isDigit (x : Int32) : g_X8_isDigit x = some (if isDg x then 1 else 0) := by
  unfold g_X8_isDigit
  simp only [Int32.lt_iff_toInt_lt]
  have e1 : (48 : Int32).toInt = 48 := by decide
  have e2 : (57 : Int32).toInt = 57 := by decide
  rw [e1, e2]
  by_cases h1 : x.toInt < 48
  · rw [if_pos h1, if_neg (fun h : isDg x => absurd h.1 (by omega))]
  · rw [if_neg h1]
    by_cases h2 : 57 < x.toInt
    · rw [if_pos h2, if_neg (fun h : isDg x => absurd h.2 (by omega))]
    · rw [if_neg h2, if_pos (show isDg x from ⟨by omega, by omega⟩)]
theorem x_isPrefix (x : Int32) : g_X8_isPrefix x = some (if isPf x then 1 else 0) := by
  unfold g_X8_isPrefix g_X8_isPrefix_12 isPf
  by_cases h1 : x = 33
  · simp [h1]
  · by_cases h2 : x = 45
    · simp [h2]
    · simp [h1, h2]
theorem dg_kind {x : Int32} (h : isDg x) : nmN x = 9 ∧ rkN x = 9 ∧ ¬ isPf x ∧ x ≠ 40 ∧ x ≠ 41 ∧ x ≠ 32 ∧ x ≠ -1 := by
  have q : ∀ y : Int32, (y.toInt < 48 ∨ 57 < y.toInt) → x ≠ y := fun y hy e => by subst e; unfold isDg at h; omega
  unfold nmN rkN isPf
  simp [q 99 (by decide), q 115 (by decide), q 111 (by decide), q 112 (by decide), q 98 (by decide), q 102 (by decide), q 124 (by decide), q 38 (by decide), q 60 (by decide), q 61 (by decide), q 62 (by decide), q 43 (by decide), q 45 (by decide), q 42 (by decide), q 47 (by decide), q 33 (by decide), q 40 (by decide), q 41 (by decide), q 32 (by decide), q (-1) (by decide)]
/-- where a run of digits ends -/
def dE (c : Nat → Int32) (L q : Nat) : Nat := if h : q < L ∧ isDg (c q) then dE c L (q + 1) else q
termination_by L - q
decreasing_by omega
theorem dE_ge (c : Nat → Int32) (L : Nat) : ∀ k q : Nat, L - q ≤ k → q ≤ dE c L q
  | 0, q, h => by rw [dE, dif_neg (by omega)]; exact Nat.le_refl q
  | k + 1, q, h => by
    rw [dE]
    by_cases e : q < L ∧ isDg (c q)
    · rw [dif_pos e]
      have := dE_ge c L k (q + 1) (by omega)
      omega
    · rw [dif_neg e]; exact Nat.le_refl q
theorem dE_le (c : Nat → Int32) (L : Nat) : ∀ k q : Nat, L - q ≤ k → q ≤ L → dE c L q ≤ L
  | 0, q, h, h2 => by rw [dE, dif_neg (by omega)]; exact h2
  | k + 1, q, h, h2 => by
    rw [dE]
    by_cases e : q < L ∧ isDg (c q)
    · rw [dif_pos e]
      exact dE_le c L k (q + 1) (by omega) (by omega)
    · rw [dif_neg e]; exact h2
/-- the number that so many digits tell -/
def nv (c : Nat → Int32) (q : Nat) : Nat → Nat
  | 0 => 0
  | k + 1 => 10 * nv c q k + ((c (q + k)).toInt - 48).toNat
/-- the sign that a prefix leaves -/
def sg (x : Int32) : Int32 := if x = 33 then -33 else -126
/-- the least such relation -/
def PS (c : Nat → Int32) (L : Nat) (t : Nat) (d : Nat) (q : Nat) (E : List Int32) (q2 : Nat) : Prop :=
  ∀ P : Nat → Nat → Nat → List Int32 → Nat → Prop,
    (∀ {d q : Nat}, isDg (ah c L q) → dE c L (sk c L q) - sk c L q ≤ 6 → P 6 d q [nI (nv c (sk c L q) (dE c L (sk c L q) - sk c L q))] (dE c L (sk c L q))) →
    (∀ {d q : Nat}, nmN (ah c L q) ≤ 5 → P 6 d q [-1 - nI (nmN (ah c L q))] (sk c L q + 1)) →
    (∀ {d q q1 : Nat} {E : List Int32}, ah c L q = 40 → d < 8 → P 0 (d + 1) (sk c L q + 1) E q1 → ah c L q1 = 41 → P 6 d q E (sk c L q1 + 1)) →
    (∀ {d q q' : Nat} {E : List Int32}, ¬ isPf (ah c L q) → P 6 d (sk c L q) E q' → P 5 d q E q') →
    (∀ {d q q' : Nat} {E : List Int32}, isPf (ah c L q) → P 5 d (sk c L q + 1) E q' → P 5 d q (sg (ah c L q) :: E) q') →
    (∀ {r d q q1 q' : Nat} {E1 E2 : List Int32}, r ≤ 4 → P (r + 1) d q E1 q1 → P (10 + r) d q1 E2 q' → P r d q (E2 ++ E1) q') →
    (∀ {r d q : Nat}, r ≤ 4 → rkN (ah c L q) ≠ r → P (10 + r) d q [] (sk c L q)) →
    (∀ {d q q1 : Nat} {E : List Int32}, rkN (ah c L q) = 2 → P 3 d (sk c L q + 1) E q1 → P 12 d q (-(ah c L q) :: E) q1) →
    (∀ {r d q q1 q' : Nat} {E1 E2 : List Int32}, r ≤ 4 → r ≠ 2 → rkN (ah c L q) = r → P (r + 1) d (sk c L q + 1) E1 q1 → P (10 + r) d q1 E2 q' → P (10 + r) d q (E2 ++ (-(ah c L q) :: E1)) q') →
    P t d q E q2
theorem PS.num {c : Nat → Int32} {L : Nat} {d q : Nat} (h0 : isDg (ah c L q)) (h1 : dE c L (sk c L q) - sk c L q ≤ 6) : PS c L 6 d q [nI (nv c (sk c L q) (dE c L (sk c L q) - sk c L q))] (dE c L (sk c L q)) := fun P k0 k1 k2 k3 k4 k5 k6 k7 k8 => k0 h0 h1
theorem PS.nam {c : Nat → Int32} {L : Nat} {d q : Nat} (h0 : nmN (ah c L q) ≤ 5) : PS c L 6 d q [-1 - nI (nmN (ah c L q))] (sk c L q + 1) := fun P k0 k1 k2 k3 k4 k5 k6 k7 k8 => k1 h0
theorem PS.par {c : Nat → Int32} {L : Nat} {d q q1 : Nat} {E : List Int32} (h0 : ah c L q = 40) (h1 : d < 8) (h2 : PS c L 0 (d + 1) (sk c L q + 1) E q1) (h3 : ah c L q1 = 41) : PS c L 6 d q E (sk c L q1 + 1) := fun P k0 k1 k2 k3 k4 k5 k6 k7 k8 => k2 h0 h1 (h2 P k0 k1 k2 k3 k4 k5 k6 k7 k8) h3
theorem PS.opd {c : Nat → Int32} {L : Nat} {d q q' : Nat} {E : List Int32} (h0 : ¬ isPf (ah c L q)) (h1 : PS c L 6 d (sk c L q) E q') : PS c L 5 d q E q' := fun P k0 k1 k2 k3 k4 k5 k6 k7 k8 => k3 h0 (h1 P k0 k1 k2 k3 k4 k5 k6 k7 k8)
theorem PS.pre {c : Nat → Int32} {L : Nat} {d q q' : Nat} {E : List Int32} (h0 : isPf (ah c L q)) (h1 : PS c L 5 d (sk c L q + 1) E q') : PS c L 5 d q (sg (ah c L q) :: E) q' := fun P k0 k1 k2 k3 k4 k5 k6 k7 k8 => k4 h0 (h1 P k0 k1 k2 k3 k4 k5 k6 k7 k8)
theorem PS.lev {c : Nat → Int32} {L : Nat} {r d q q1 q' : Nat} {E1 E2 : List Int32} (h0 : r ≤ 4) (h1 : PS c L (r + 1) d q E1 q1) (h2 : PS c L (10 + r) d q1 E2 q') : PS c L r d q (E2 ++ E1) q' := fun P k0 k1 k2 k3 k4 k5 k6 k7 k8 => k5 h0 (h1 P k0 k1 k2 k3 k4 k5 k6 k7 k8) (h2 P k0 k1 k2 k3 k4 k5 k6 k7 k8)
theorem PS.tend {c : Nat → Int32} {L : Nat} {r d q : Nat} (h0 : r ≤ 4) (h1 : rkN (ah c L q) ≠ r) : PS c L (10 + r) d q [] (sk c L q) := fun P k0 k1 k2 k3 k4 k5 k6 k7 k8 => k6 h0 h1
theorem PS.tcmp {c : Nat → Int32} {L : Nat} {d q q1 : Nat} {E : List Int32} (h0 : rkN (ah c L q) = 2) (h1 : PS c L 3 d (sk c L q + 1) E q1) : PS c L 12 d q (-(ah c L q) :: E) q1 := fun P k0 k1 k2 k3 k4 k5 k6 k7 k8 => k7 h0 (h1 P k0 k1 k2 k3 k4 k5 k6 k7 k8)
theorem PS.tstep {c : Nat → Int32} {L : Nat} {r d q q1 q' : Nat} {E1 E2 : List Int32} (h0 : r ≤ 4) (h1 : r ≠ 2) (h2 : rkN (ah c L q) = r) (h3 : PS c L (r + 1) d (sk c L q + 1) E1 q1) (h4 : PS c L (10 + r) d q1 E2 q') : PS c L (10 + r) d q (E2 ++ (-(ah c L q) :: E1)) q' := fun P k0 k1 k2 k3 k4 k5 k6 k7 k8 => k8 h0 h1 h2 (h3 P k0 k1 k2 k3 k4 k5 k6 k7 k8) (h4 P k0 k1 k2 k3 k4 k5 k6 k7 k8)
theorem PS.ind {c : Nat → Int32} {L : Nat} {motive : (t : Nat) → (d : Nat) → (q : Nat) → (E : List Int32) → (q2 : Nat) → PS c L t d q E q2 → Prop}
    (num : ∀ {d q : Nat} (h0 : isDg (ah c L q)) (h1 : dE c L (sk c L q) - sk c L q ≤ 6), motive 6 d q [nI (nv c (sk c L q) (dE c L (sk c L q) - sk c L q))] (dE c L (sk c L q)) (PS.num h0 h1))
    (nam : ∀ {d q : Nat} (h0 : nmN (ah c L q) ≤ 5), motive 6 d q [-1 - nI (nmN (ah c L q))] (sk c L q + 1) (PS.nam h0))
    (par : ∀ {d q q1 : Nat} {E : List Int32} (h0 : ah c L q = 40) (h1 : d < 8) (h2 : PS c L 0 (d + 1) (sk c L q + 1) E q1) (h3 : ah c L q1 = 41) (ih2 : motive 0 (d + 1) (sk c L q + 1) E q1 h2), motive 6 d q E (sk c L q1 + 1) (PS.par h0 h1 h2 h3))
    (opd : ∀ {d q q' : Nat} {E : List Int32} (h0 : ¬ isPf (ah c L q)) (h1 : PS c L 6 d (sk c L q) E q') (ih1 : motive 6 d (sk c L q) E q' h1), motive 5 d q E q' (PS.opd h0 h1))
    (pre : ∀ {d q q' : Nat} {E : List Int32} (h0 : isPf (ah c L q)) (h1 : PS c L 5 d (sk c L q + 1) E q') (ih1 : motive 5 d (sk c L q + 1) E q' h1), motive 5 d q (sg (ah c L q) :: E) q' (PS.pre h0 h1))
    (lev : ∀ {r d q q1 q' : Nat} {E1 E2 : List Int32} (h0 : r ≤ 4) (h1 : PS c L (r + 1) d q E1 q1) (h2 : PS c L (10 + r) d q1 E2 q') (ih1 : motive (r + 1) d q E1 q1 h1) (ih2 : motive (10 + r) d q1 E2 q' h2), motive r d q (E2 ++ E1) q' (PS.lev h0 h1 h2))
    (tend : ∀ {r d q : Nat} (h0 : r ≤ 4) (h1 : rkN (ah c L q) ≠ r), motive (10 + r) d q [] (sk c L q) (PS.tend h0 h1))
    (tcmp : ∀ {d q q1 : Nat} {E : List Int32} (h0 : rkN (ah c L q) = 2) (h1 : PS c L 3 d (sk c L q + 1) E q1) (ih1 : motive 3 d (sk c L q + 1) E q1 h1), motive 12 d q (-(ah c L q) :: E) q1 (PS.tcmp h0 h1))
    (tstep : ∀ {r d q q1 q' : Nat} {E1 E2 : List Int32} (h0 : r ≤ 4) (h1 : r ≠ 2) (h2 : rkN (ah c L q) = r) (h3 : PS c L (r + 1) d (sk c L q + 1) E1 q1) (h4 : PS c L (10 + r) d q1 E2 q') (ih3 : motive (r + 1) d (sk c L q + 1) E1 q1 h3) (ih4 : motive (10 + r) d q1 E2 q' h4), motive (10 + r) d q (E2 ++ (-(ah c L q) :: E1)) q' (PS.tstep h0 h1 h2 h3 h4))
    {t : Nat} {d : Nat} {q : Nat} {E : List Int32} {q2 : Nat} (h : PS c L t d q E q2) : motive t d q E q2 h :=
  (h (fun t d q E q2 => ∃ h : PS c L t d q E q2, motive t d q E q2 h)
    (@fun d q h0 h1 => ⟨PS.num h0 h1, num h0 h1⟩)
    (@fun d q h0 => ⟨PS.nam h0, nam h0⟩)
    (@fun d q q1 E h0 h1 h2 h3 => ⟨PS.par h0 h1 h2.1 h3, par h0 h1 h2.1 h3 h2.2⟩)
    (@fun d q q' E h0 h1 => ⟨PS.opd h0 h1.1, opd h0 h1.1 h1.2⟩)
    (@fun d q q' E h0 h1 => ⟨PS.pre h0 h1.1, pre h0 h1.1 h1.2⟩)
    (@fun r d q q1 q' E1 E2 h0 h1 h2 => ⟨PS.lev h0 h1.1 h2.1, lev h0 h1.1 h2.1 h1.2 h2.2⟩)
    (@fun r d q h0 h1 => ⟨PS.tend h0 h1, tend h0 h1⟩)
    (@fun d q q1 E h0 h1 => ⟨PS.tcmp h0 h1.1, tcmp h0 h1.1 h1.2⟩)
    (@fun r d q q1 q' E1 E2 h0 h1 h2 h3 h4 => ⟨PS.tstep h0 h1 h2 h3.1 h4.1, tstep h0 h1 h2 h3.1 h4.1 h3.2 h4.2⟩)).2
theorem PS.cs {c : Nat → Int32} {L : Nat} {motive : (t : Nat) → (d : Nat) → (q : Nat) → (E : List Int32) → (q2 : Nat) → PS c L t d q E q2 → Prop}
    (num : ∀ {d q : Nat} (h0 : isDg (ah c L q)) (h1 : dE c L (sk c L q) - sk c L q ≤ 6), motive 6 d q [nI (nv c (sk c L q) (dE c L (sk c L q) - sk c L q))] (dE c L (sk c L q)) (PS.num h0 h1))
    (nam : ∀ {d q : Nat} (h0 : nmN (ah c L q) ≤ 5), motive 6 d q [-1 - nI (nmN (ah c L q))] (sk c L q + 1) (PS.nam h0))
    (par : ∀ {d q q1 : Nat} {E : List Int32} (h0 : ah c L q = 40) (h1 : d < 8) (h2 : PS c L 0 (d + 1) (sk c L q + 1) E q1) (h3 : ah c L q1 = 41), motive 6 d q E (sk c L q1 + 1) (PS.par h0 h1 h2 h3))
    (opd : ∀ {d q q' : Nat} {E : List Int32} (h0 : ¬ isPf (ah c L q)) (h1 : PS c L 6 d (sk c L q) E q'), motive 5 d q E q' (PS.opd h0 h1))
    (pre : ∀ {d q q' : Nat} {E : List Int32} (h0 : isPf (ah c L q)) (h1 : PS c L 5 d (sk c L q + 1) E q'), motive 5 d q (sg (ah c L q) :: E) q' (PS.pre h0 h1))
    (lev : ∀ {r d q q1 q' : Nat} {E1 E2 : List Int32} (h0 : r ≤ 4) (h1 : PS c L (r + 1) d q E1 q1) (h2 : PS c L (10 + r) d q1 E2 q'), motive r d q (E2 ++ E1) q' (PS.lev h0 h1 h2))
    (tend : ∀ {r d q : Nat} (h0 : r ≤ 4) (h1 : rkN (ah c L q) ≠ r), motive (10 + r) d q [] (sk c L q) (PS.tend h0 h1))
    (tcmp : ∀ {d q q1 : Nat} {E : List Int32} (h0 : rkN (ah c L q) = 2) (h1 : PS c L 3 d (sk c L q + 1) E q1), motive 12 d q (-(ah c L q) :: E) q1 (PS.tcmp h0 h1))
    (tstep : ∀ {r d q q1 q' : Nat} {E1 E2 : List Int32} (h0 : r ≤ 4) (h1 : r ≠ 2) (h2 : rkN (ah c L q) = r) (h3 : PS c L (r + 1) d (sk c L q + 1) E1 q1) (h4 : PS c L (10 + r) d q1 E2 q'), motive (10 + r) d q (E2 ++ (-(ah c L q) :: E1)) q' (PS.tstep h0 h1 h2 h3 h4))
    {t : Nat} {d : Nat} {q : Nat} {E : List Int32} {q2 : Nat} (h : PS c L t d q E q2) : motive t d q E q2 h :=
  PS.ind (motive := motive) (fun h0 h1 => num h0 h1) (fun h0 => nam h0) (fun h0 h1 h2 h3 _ => par h0 h1 h2 h3) (fun h0 h1 _ => opd h0 h1) (fun h0 h1 _ => pre h0 h1) (fun h0 h1 h2 _ _ => lev h0 h1 h2) (fun h0 h1 => tend h0 h1) (fun h0 h1 _ => tcmp h0 h1) (fun h0 h1 h2 h3 h4 _ _ => tstep h0 h1 h2 h3 h4) h
/-- the least such relation -/
def PF (c : Nat → Int32) (L : Nat) (t : Nat) (d : Nat) (q : Nat) (f : Nat) : Prop :=
  ∀ P : Nat → Nat → Nat → Nat → Prop,
    (∀ {d q : Nat}, isDg (ah c L q) → ¬ dE c L (sk c L q) - sk c L q ≤ 6 → P 6 d q (10 * sk c L q + 2)) →
    (∀ {d q : Nat}, ah c L q = 40 → ¬ d < 8 → P 6 d q (10 * sk c L q + 3)) →
    (∀ {d q f : Nat}, ah c L q = 40 → d < 8 → P 0 (d + 1) (sk c L q + 1) f → P 6 d q f) →
    (∀ {d q q1 : Nat} {E : List Int32}, ah c L q = 40 → d < 8 → PS c L 0 (d + 1) (sk c L q + 1) E q1 → ah c L q1 ≠ 41 → P 6 d q (10 * sk c L q1 + 1)) →
    (∀ {d q : Nat}, ¬ isDg (ah c L q) → nmN (ah c L q) = 9 → ah c L q ≠ 40 → ¬ isPf (ah c L q) → P 6 d q (10 * sk c L q + 1)) →
    (∀ {d q f : Nat}, ¬ isPf (ah c L q) → P 6 d (sk c L q) f → P 5 d q f) →
    (∀ {d q f : Nat}, isPf (ah c L q) → P 5 d (sk c L q + 1) f → P 5 d q f) →
    (∀ {r d q f : Nat}, r ≤ 4 → P (r + 1) d q f → P r d q f) →
    (∀ {r d q q1 f : Nat} {E : List Int32}, r ≤ 4 → PS c L (r + 1) d q E q1 → P (10 + r) d q1 f → P r d q f) →
    (∀ {r d q f : Nat}, r ≤ 4 → rkN (ah c L q) = r → P (r + 1) d (sk c L q + 1) f → P (10 + r) d q f) →
    (∀ {r d q q1 f : Nat} {E : List Int32}, r ≤ 4 → r ≠ 2 → rkN (ah c L q) = r → PS c L (r + 1) d (sk c L q + 1) E q1 → P (10 + r) d q1 f → P (10 + r) d q f) →
    P t d q f
theorem PF.longn {c : Nat → Int32} {L : Nat} {d q : Nat} (h0 : isDg (ah c L q)) (h1 : ¬ dE c L (sk c L q) - sk c L q ≤ 6) : PF c L 6 d q (10 * sk c L q + 2) := fun P k0 k1 k2 k3 k4 k5 k6 k7 k8 k9 k10 => k0 h0 h1
theorem PF.deep {c : Nat → Int32} {L : Nat} {d q : Nat} (h0 : ah c L q = 40) (h1 : ¬ d < 8) : PF c L 6 d q (10 * sk c L q + 3) := fun P k0 k1 k2 k3 k4 k5 k6 k7 k8 k9 k10 => k1 h0 h1
theorem PF.parf {c : Nat → Int32} {L : Nat} {d q f : Nat} (h0 : ah c L q = 40) (h1 : d < 8) (h2 : PF c L 0 (d + 1) (sk c L q + 1) f) : PF c L 6 d q f := fun P k0 k1 k2 k3 k4 k5 k6 k7 k8 k9 k10 => k2 h0 h1 (h2 P k0 k1 k2 k3 k4 k5 k6 k7 k8 k9 k10)
theorem PF.parx {c : Nat → Int32} {L : Nat} {d q q1 : Nat} {E : List Int32} (h0 : ah c L q = 40) (h1 : d < 8) (h2 : PS c L 0 (d + 1) (sk c L q + 1) E q1) (h3 : ah c L q1 ≠ 41) : PF c L 6 d q (10 * sk c L q1 + 1) := fun P k0 k1 k2 k3 k4 k5 k6 k7 k8 k9 k10 => k3 h0 h1 h2 h3
theorem PF.stray {c : Nat → Int32} {L : Nat} {d q : Nat} (h0 : ¬ isDg (ah c L q)) (h1 : nmN (ah c L q) = 9) (h2 : ah c L q ≠ 40) (h3 : ¬ isPf (ah c L q)) : PF c L 6 d q (10 * sk c L q + 1) := fun P k0 k1 k2 k3 k4 k5 k6 k7 k8 k9 k10 => k4 h0 h1 h2 h3
theorem PF.opdf {c : Nat → Int32} {L : Nat} {d q f : Nat} (h0 : ¬ isPf (ah c L q)) (h1 : PF c L 6 d (sk c L q) f) : PF c L 5 d q f := fun P k0 k1 k2 k3 k4 k5 k6 k7 k8 k9 k10 => k5 h0 (h1 P k0 k1 k2 k3 k4 k5 k6 k7 k8 k9 k10)
theorem PF.pref {c : Nat → Int32} {L : Nat} {d q f : Nat} (h0 : isPf (ah c L q)) (h1 : PF c L 5 d (sk c L q + 1) f) : PF c L 5 d q f := fun P k0 k1 k2 k3 k4 k5 k6 k7 k8 k9 k10 => k6 h0 (h1 P k0 k1 k2 k3 k4 k5 k6 k7 k8 k9 k10)
theorem PF.levf {c : Nat → Int32} {L : Nat} {r d q f : Nat} (h0 : r ≤ 4) (h1 : PF c L (r + 1) d q f) : PF c L r d q f := fun P k0 k1 k2 k3 k4 k5 k6 k7 k8 k9 k10 => k7 h0 (h1 P k0 k1 k2 k3 k4 k5 k6 k7 k8 k9 k10)
theorem PF.levt {c : Nat → Int32} {L : Nat} {r d q q1 f : Nat} {E : List Int32} (h0 : r ≤ 4) (h1 : PS c L (r + 1) d q E q1) (h2 : PF c L (10 + r) d q1 f) : PF c L r d q f := fun P k0 k1 k2 k3 k4 k5 k6 k7 k8 k9 k10 => k8 h0 h1 (h2 P k0 k1 k2 k3 k4 k5 k6 k7 k8 k9 k10)
theorem PF.tstepf {c : Nat → Int32} {L : Nat} {r d q f : Nat} (h0 : r ≤ 4) (h1 : rkN (ah c L q) = r) (h2 : PF c L (r + 1) d (sk c L q + 1) f) : PF c L (10 + r) d q f := fun P k0 k1 k2 k3 k4 k5 k6 k7 k8 k9 k10 => k9 h0 h1 (h2 P k0 k1 k2 k3 k4 k5 k6 k7 k8 k9 k10)
theorem PF.tstept {c : Nat → Int32} {L : Nat} {r d q q1 f : Nat} {E : List Int32} (h0 : r ≤ 4) (h1 : r ≠ 2) (h2 : rkN (ah c L q) = r) (h3 : PS c L (r + 1) d (sk c L q + 1) E q1) (h4 : PF c L (10 + r) d q1 f) : PF c L (10 + r) d q f := fun P k0 k1 k2 k3 k4 k5 k6 k7 k8 k9 k10 => k10 h0 h1 h2 h3 (h4 P k0 k1 k2 k3 k4 k5 k6 k7 k8 k9 k10)
theorem PF.ind {c : Nat → Int32} {L : Nat} {motive : (t : Nat) → (d : Nat) → (q : Nat) → (f : Nat) → PF c L t d q f → Prop}
    (longn : ∀ {d q : Nat} (h0 : isDg (ah c L q)) (h1 : ¬ dE c L (sk c L q) - sk c L q ≤ 6), motive 6 d q (10 * sk c L q + 2) (PF.longn h0 h1))
    (deep : ∀ {d q : Nat} (h0 : ah c L q = 40) (h1 : ¬ d < 8), motive 6 d q (10 * sk c L q + 3) (PF.deep h0 h1))
    (parf : ∀ {d q f : Nat} (h0 : ah c L q = 40) (h1 : d < 8) (h2 : PF c L 0 (d + 1) (sk c L q + 1) f) (ih2 : motive 0 (d + 1) (sk c L q + 1) f h2), motive 6 d q f (PF.parf h0 h1 h2))
    (parx : ∀ {d q q1 : Nat} {E : List Int32} (h0 : ah c L q = 40) (h1 : d < 8) (h2 : PS c L 0 (d + 1) (sk c L q + 1) E q1) (h3 : ah c L q1 ≠ 41), motive 6 d q (10 * sk c L q1 + 1) (PF.parx h0 h1 h2 h3))
    (stray : ∀ {d q : Nat} (h0 : ¬ isDg (ah c L q)) (h1 : nmN (ah c L q) = 9) (h2 : ah c L q ≠ 40) (h3 : ¬ isPf (ah c L q)), motive 6 d q (10 * sk c L q + 1) (PF.stray h0 h1 h2 h3))
    (opdf : ∀ {d q f : Nat} (h0 : ¬ isPf (ah c L q)) (h1 : PF c L 6 d (sk c L q) f) (ih1 : motive 6 d (sk c L q) f h1), motive 5 d q f (PF.opdf h0 h1))
    (pref : ∀ {d q f : Nat} (h0 : isPf (ah c L q)) (h1 : PF c L 5 d (sk c L q + 1) f) (ih1 : motive 5 d (sk c L q + 1) f h1), motive 5 d q f (PF.pref h0 h1))
    (levf : ∀ {r d q f : Nat} (h0 : r ≤ 4) (h1 : PF c L (r + 1) d q f) (ih1 : motive (r + 1) d q f h1), motive r d q f (PF.levf h0 h1))
    (levt : ∀ {r d q q1 f : Nat} {E : List Int32} (h0 : r ≤ 4) (h1 : PS c L (r + 1) d q E q1) (h2 : PF c L (10 + r) d q1 f) (ih2 : motive (10 + r) d q1 f h2), motive r d q f (PF.levt h0 h1 h2))
    (tstepf : ∀ {r d q f : Nat} (h0 : r ≤ 4) (h1 : rkN (ah c L q) = r) (h2 : PF c L (r + 1) d (sk c L q + 1) f) (ih2 : motive (r + 1) d (sk c L q + 1) f h2), motive (10 + r) d q f (PF.tstepf h0 h1 h2))
    (tstept : ∀ {r d q q1 f : Nat} {E : List Int32} (h0 : r ≤ 4) (h1 : r ≠ 2) (h2 : rkN (ah c L q) = r) (h3 : PS c L (r + 1) d (sk c L q + 1) E q1) (h4 : PF c L (10 + r) d q1 f) (ih4 : motive (10 + r) d q1 f h4), motive (10 + r) d q f (PF.tstept h0 h1 h2 h3 h4))
    {t : Nat} {d : Nat} {q : Nat} {f : Nat} (h : PF c L t d q f) : motive t d q f h :=
  (h (fun t d q f => ∃ h : PF c L t d q f, motive t d q f h)
    (@fun d q h0 h1 => ⟨PF.longn h0 h1, longn h0 h1⟩)
    (@fun d q h0 h1 => ⟨PF.deep h0 h1, deep h0 h1⟩)
    (@fun d q f h0 h1 h2 => ⟨PF.parf h0 h1 h2.1, parf h0 h1 h2.1 h2.2⟩)
    (@fun d q q1 E h0 h1 h2 h3 => ⟨PF.parx h0 h1 h2 h3, parx h0 h1 h2 h3⟩)
    (@fun d q h0 h1 h2 h3 => ⟨PF.stray h0 h1 h2 h3, stray h0 h1 h2 h3⟩)
    (@fun d q f h0 h1 => ⟨PF.opdf h0 h1.1, opdf h0 h1.1 h1.2⟩)
    (@fun d q f h0 h1 => ⟨PF.pref h0 h1.1, pref h0 h1.1 h1.2⟩)
    (@fun r d q f h0 h1 => ⟨PF.levf h0 h1.1, levf h0 h1.1 h1.2⟩)
    (@fun r d q q1 f E h0 h1 h2 => ⟨PF.levt h0 h1 h2.1, levt h0 h1 h2.1 h2.2⟩)
    (@fun r d q f h0 h1 h2 => ⟨PF.tstepf h0 h1 h2.1, tstepf h0 h1 h2.1 h2.2⟩)
    (@fun r d q q1 f E h0 h1 h2 h3 h4 => ⟨PF.tstept h0 h1 h2 h3 h4.1, tstept h0 h1 h2 h3 h4.1 h4.2⟩)).2
theorem PF.cs {c : Nat → Int32} {L : Nat} {motive : (t : Nat) → (d : Nat) → (q : Nat) → (f : Nat) → PF c L t d q f → Prop}
    (longn : ∀ {d q : Nat} (h0 : isDg (ah c L q)) (h1 : ¬ dE c L (sk c L q) - sk c L q ≤ 6), motive 6 d q (10 * sk c L q + 2) (PF.longn h0 h1))
    (deep : ∀ {d q : Nat} (h0 : ah c L q = 40) (h1 : ¬ d < 8), motive 6 d q (10 * sk c L q + 3) (PF.deep h0 h1))
    (parf : ∀ {d q f : Nat} (h0 : ah c L q = 40) (h1 : d < 8) (h2 : PF c L 0 (d + 1) (sk c L q + 1) f), motive 6 d q f (PF.parf h0 h1 h2))
    (parx : ∀ {d q q1 : Nat} {E : List Int32} (h0 : ah c L q = 40) (h1 : d < 8) (h2 : PS c L 0 (d + 1) (sk c L q + 1) E q1) (h3 : ah c L q1 ≠ 41), motive 6 d q (10 * sk c L q1 + 1) (PF.parx h0 h1 h2 h3))
    (stray : ∀ {d q : Nat} (h0 : ¬ isDg (ah c L q)) (h1 : nmN (ah c L q) = 9) (h2 : ah c L q ≠ 40) (h3 : ¬ isPf (ah c L q)), motive 6 d q (10 * sk c L q + 1) (PF.stray h0 h1 h2 h3))
    (opdf : ∀ {d q f : Nat} (h0 : ¬ isPf (ah c L q)) (h1 : PF c L 6 d (sk c L q) f), motive 5 d q f (PF.opdf h0 h1))
    (pref : ∀ {d q f : Nat} (h0 : isPf (ah c L q)) (h1 : PF c L 5 d (sk c L q + 1) f), motive 5 d q f (PF.pref h0 h1))
    (levf : ∀ {r d q f : Nat} (h0 : r ≤ 4) (h1 : PF c L (r + 1) d q f), motive r d q f (PF.levf h0 h1))
    (levt : ∀ {r d q q1 f : Nat} {E : List Int32} (h0 : r ≤ 4) (h1 : PS c L (r + 1) d q E q1) (h2 : PF c L (10 + r) d q1 f), motive r d q f (PF.levt h0 h1 h2))
    (tstepf : ∀ {r d q f : Nat} (h0 : r ≤ 4) (h1 : rkN (ah c L q) = r) (h2 : PF c L (r + 1) d (sk c L q + 1) f), motive (10 + r) d q f (PF.tstepf h0 h1 h2))
    (tstept : ∀ {r d q q1 f : Nat} {E : List Int32} (h0 : r ≤ 4) (h1 : r ≠ 2) (h2 : rkN (ah c L q) = r) (h3 : PS c L (r + 1) d (sk c L q + 1) E q1) (h4 : PF c L (10 + r) d q1 f), motive (10 + r) d q f (PF.tstept h0 h1 h2 h3 h4))
    {t : Nat} {d : Nat} {q : Nat} {f : Nat} (h : PF c L t d q f) : motive t d q f h :=
  PF.ind (motive := motive) (fun h0 h1 => longn h0 h1) (fun h0 h1 => deep h0 h1) (fun h0 h1 h2 _ => parf h0 h1 h2) (fun h0 h1 h2 h3 => parx h0 h1 h2 h3) (fun h0 h1 h2 h3 => stray h0 h1 h2 h3) (fun h0 h1 _ => opdf h0 h1) (fun h0 h1 _ => pref h0 h1) (fun h0 h1 _ => levf h0 h1) (fun h0 h1 h2 _ => levt h0 h1 h2) (fun h0 h1 h2 _ => tstepf h0 h1 h2) (fun h0 h1 h2 h3 h4 _ => tstept h0 h1 h2 h3 h4) h
theorem dE_dg {c : Nat → Int32} {L q : Nat} (h : q < L) (hd : isDg (c q)) : q < dE c L q := by
  rw [dE, dif_pos ⟨h, hd⟩]
  have := dE_ge c L _ (q + 1) (Nat.le_refl _)
  omega
theorem rk_ne {x : Int32} (h : rkN x ≤ 4) : x ≠ -1 ∧ x ≠ 40 ∧ x ≠ 41 := by
  refine ⟨fun e => ?_, fun e => ?_, fun e => ?_⟩ <;> subst e <;> revert h <;> decide
theorem nm_ne {x : Int32} (h : nmN x ≤ 5) : x ≠ -1 ∧ x ≠ 40 ∧ ¬ isPf x ∧ ¬ isDg x := by
  refine ⟨fun e => ?_, fun e => ?_, fun e => ?_, fun e => ?_⟩
  · subst e; revert h; decide
  · subst e; revert h; decide
  · rcases e with e | e <;> subst e <;> revert h <;> decide
  · have := (dg_kind e).1; omega
theorem pf_ne {x : Int32} (h : isPf x) : x ≠ -1 ∧ ¬ isDg x := by
  rcases h with e | e <;> subst e <;> exact ⟨by decide, by decide⟩
/-- a parse goes on, and emits no more than it passes -/
theorem ps_len {c : Nat → Int32} {L t d q q' : Nat} {E : List Int32} (hT : TXT c L) (h : PS c L t d q E q') : E.length + q ≤ q' ∧ (t < 10 → q < q') ∧ (q ≤ L → q' ≤ L) := by
  induction h using PS.ind with
  | @num d q h1 h2 =>
    have h3 := ah_ne hT (fun e => (dg_kind h1).2.2.2.2.2.2 e)
    have h4 := sk_ge c L _ q (Nat.le_refl _)
    have h5 := dE_dg h3.1 (h3.2 ▸ h1)
    have h6 := dE_le c L _ (sk c L q) (Nat.le_refl _) (by omega)
    simp only [List.length_cons, List.length_nil]
    omega
  | @nam d q h1 =>
    have h3 := ah_ne hT (nm_ne h1).1
    have h4 := sk_ge c L _ q (Nat.le_refl _)
    simp only [List.length_cons, List.length_nil]
    omega
  | @par d q q1 E h1 h2 h3 h4 ih =>
    have h5 := ah_ne hT (q := q) (fun e => by rw [h1] at e; revert e; decide)
    have h6 := ah_ne hT (q := q1) (fun e => by rw [h4] at e; revert e; decide)
    have h7 := sk_ge c L _ q (Nat.le_refl _)
    have h8 := sk_ge c L _ q1 (Nat.le_refl _)
    omega
  | @opd d q q' E h1 h2 ih =>
    have h7 := sk_ge c L _ q (Nat.le_refl _)
    have h8 := sk_le c L _ q (Nat.le_refl _)
    omega
  | @pre d q q' E h1 h2 ih =>
    have h3 := ah_ne hT (pf_ne h1).1
    have h7 := sk_ge c L _ q (Nat.le_refl _)
    simp only [List.length_cons]
    omega
  | @lev r d q q1 q' E1 E2 h1 h2 h3 ih1 ih2 =>
    simp only [List.length_append]
    omega
  | @tend r d q h1 h2 =>
    have h7 := sk_ge c L _ q (Nat.le_refl _)
    have h8 := sk_le c L _ q (Nat.le_refl _)
    simp only [List.length_nil]
    omega
  | @tcmp d q q1 E h1 h2 ih =>
    have h3 := ah_ne hT (rk_ne (x := ah c L q) (by omega)).1
    have h7 := sk_ge c L _ q (Nat.le_refl _)
    simp only [List.length_cons]
    omega
  | @tstep r d q q1 q' E1 E2 h1 h2 h3 h4 h5 ih1 ih2 =>
    have h3 := ah_ne hT (rk_ne (x := ah c L q) (by omega)).1
    have h7 := sk_ge c L _ q (Nat.le_refl _)
    simp only [List.length_append, List.length_cons]
    omega
/-- a unit may begin ahead of blanks and prefixes -/
theorem ps_back {c : Nat → Int32} {L d qb q' : Nat} {E : List Int32} (h : PS c L 5 d qb E q') (hL : qb ≤ L) : ∀ (k q : Nat), qb - q = k → q ≤ qb → (∀ j, q ≤ j → j < qb → c j = 32 ∨ isPf (c j)) → ∃ E', PS c L 5 d q (E' ++ E) q' ∧ E' = ((List.range' q (qb - q)).filter (fun j => decide (isPf (c j)))).map (fun j => sg (c j))
  | 0, q, hk, hq, _ => by
    have : q = qb := by omega
    subst this
    exact ⟨[], h, by simp⟩
  | k + 1, q, hk, hq, hj => by
    obtain ⟨E', h1, h2⟩ := ps_back h hL k (q + 1) (by omega) (by omega) (fun j hj1 hj2 => hj j (by omega) hj2)
    have hr : List.range' q (qb - q) = q :: List.range' (q + 1) (qb - (q + 1)) := by
      rw [show qb - q = (qb - (q + 1)) + 1 by omega, List.range'_succ]
    rw [hr]
    rcases hj q (Nat.le_refl q) (by omega) with e | e
    · have hs : sk c L q = sk c L (q + 1) := sk_blank (by omega) e
      refine ⟨E', ?_, ?_⟩
      · generalize hG : E' ++ E = G at h1 ⊢
        generalize ht : 5 = t5 at h1
        cases h1 using PS.cs with
        | opd a b => exact PS.opd (by rw [ah_of hs]; exact a) (by rw [hs]; exact b)
        | pre a b => rw [← ah_of hs]; exact PS.pre (by rw [ah_of hs]; exact a) (by rw [hs]; exact b)
        | _ => omega
      · rw [List.filter_cons_of_neg (by rw [e]; decide)]; exact h2
    · have hc : c q ≠ 32 := fun e2 => by rw [e2] at e; revert e; decide
      have hs : sk c L q = q := sk_here hc
      have ha : ah c L q = c q := by rw [ah_lt (by rw [hs]; omega), hs]
      refine ⟨sg (c q) :: E', ?_, ?_⟩
      · have := PS.pre (c := c) (L := L) (d := d) (q := q) (by rw [ha]; exact e) (by rw [hs]; exact h1)
        rw [ha] at this; exact this
      · rw [List.filter_cons_of_pos (by simp [e]), List.map_cons, h2]
theorem pf_back {c : Nat → Int32} {L d qb f : Nat} (h : PF c L 5 d qb f) (hL : qb ≤ L) : ∀ (k q : Nat), qb - q = k → q ≤ qb → (∀ j, q ≤ j → j < qb → c j = 32 ∨ isPf (c j)) → PF c L 5 d q f
  | 0, q, hk, hq, _ => by
    have : q = qb := by omega
    subst this
    exact h
  | k + 1, q, hk, hq, hj => by
    have h1 := pf_back h hL k (q + 1) (by omega) (by omega) (fun j hj1 hj2 => hj j (by omega) hj2)
    rcases hj q (Nat.le_refl q) (by omega) with e | e
    · have hs : sk c L q = sk c L (q + 1) := sk_blank (by omega) e
      generalize ht : 5 = t5 at h1
      cases h1 using PF.cs with
      | opdf a b => exact PF.opdf (by rw [ah_of hs]; exact a) (by rw [hs]; exact b)
      | pref a b => exact PF.pref (by rw [ah_of hs]; exact a) (by rw [hs]; exact b)
      | _ => omega
    · have hc : c q ≠ 32 := fun e2 => by rw [e2] at e; revert e; decide
      have hs : sk c L q = q := sk_here hc
      have ha : ah c L q = c q := by rw [ah_lt (by rw [hs]; omega), hs]
      exact PF.pref (by rw [ha]; exact e) (by rw [hs]; exact h1)
