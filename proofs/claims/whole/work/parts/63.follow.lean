/-! THE RULE: the reference's stacks follow the grammar -/
/-- an entry as the reference spells it -/
def mc (e : Int32) : Int32 := if e = -1 then -99 else if e = -2 then -115 else if e = -3 then -111 else if e = -4 then -112 else if e = -5 then -98 else if e = -6 then -102 else e
theorem mc_num (v : Nat) (h : v < 2 ^ 31) : mc (nI v) = nI v := by
  have q : ∀ y : Int32, y.toInt < 0 → nI v ≠ y := fun y hy e => by
    have := congrArg Int32.toInt e
    rw [nI_toInt h] at this
    omega
  unfold mc
  simp [q (-1) (by decide), q (-2) (by decide), q (-3) (by decide), q (-4) (by decide), q (-5) (by decide), q (-6) (by decide)]
theorem mc_nam {x : Int32} (h : nmN x ≤ 5) : mc (-1 - nI (nmN x)) = -x := by
  have hx : x = 99 ∨ x = 115 ∨ x = 111 ∨ x = 112 ∨ x = 98 ∨ x = 102 := by
    unfold nmN at h
    by_cases h1 : x = 99
    · exact Or.inl h1
    by_cases h2 : x = 115
    · exact Or.inr (Or.inl h2)
    by_cases h3 : x = 111
    · exact Or.inr (Or.inr (Or.inl h3))
    by_cases h4 : x = 112
    · exact Or.inr (Or.inr (Or.inr (Or.inl h4)))
    by_cases h5 : x = 98
    · exact Or.inr (Or.inr (Or.inr (Or.inr (Or.inl h5))))
    by_cases h6 : x = 102
    · exact Or.inr (Or.inr (Or.inr (Or.inr (Or.inr h6))))
    · simp [h1, h2, h3, h4, h5, h6] at h
  rcases hx with e | e | e | e | e | e <;> subst e <;> decide
theorem rk_cases {x : Int32} (h : rkN x ≤ 4) : x = 124 ∨ x = 38 ∨ x = 60 ∨ x = 61 ∨ x = 62 ∨ x = 43 ∨ x = 45 ∨ x = 42 ∨ x = 47 := by
  unfold rkN at h
  by_cases h1 : x = 124
  · simp [h1]
  by_cases h2 : x = 38
  · simp [h2]
  by_cases h3 : x = 60
  · simp [h3]
  by_cases h4 : x = 61
  · simp [h4]
  by_cases h5 : x = 62
  · simp [h5]
  by_cases h6 : x = 43
  · simp [h6]
  by_cases h7 : x = 45
  · simp [h7]
  by_cases h8 : x = 42
  · simp [h8]
  by_cases h9 : x = 47
  · simp [h9]
  · simp [h1, h2, h3, h4, h5, h6, h7, h8, h9] at h
theorem mc_op {x : Int32} (h : rkN x ≤ 4) : mc (-x) = -x := by
  rcases rk_cases h with e | e | e | e | e | e | e | e | e <;> subst e <;> decide
theorem mc_sg {x : Int32} (h : isPf x) : mc (sg x) = -(if x = 45 then 126 else x) := by
  rcases h with e | e <;> subst e <;> decide
theorem hN_sg {x : Int32} (h : isPf x) : hN (if x = 45 then 126 else x) = 6 := by
  rcases h with e | e <;> subst e <;> decide
theorem hN_op {x : Int32} {r : Nat} (h : rkN x = r) (hr : r ≤ 4) : hN x = r + 1 := by
  have := rk_ne (x := x) (by omega)
  unfold hN
  rw [if_neg this.2.1, if_pos (by omega), h]
section
variable (w c : Nat → Int32) (L : Nat)
abbrev PHI := Int32 → Int32 → (Nat → Int32) → Prop
def ML (r d q : Nat) (E : List Int32) (q' : Nat) : Prop :=
  ∀ (Φ : PHI) (A S : List Int32) (H : Nat → Int32), S.length + A.length ≤ q → q ≤ L → d ≤ 8 → tLt (r + 1) S → (r ≤ 2 → H d = 0) →
    (∀ S' A' H', fls (r + 1) S' A' = (S, E.map mc ++ A) → S'.length + A'.length ≤ q' → (∀ j, j < d → (H' j = 0 ↔ H j = 0)) → (3 ≤ r → (H' d = 0 ↔ H d = 0)) → EX r (ah c L q') (H' d) → GD w L Φ d 0 A' S' q' H') → GD w L Φ d 1 A S q H
def MU (d q : Nat) (E : List Int32) (q' : Nat) : Prop :=
  ∀ (Φ : PHI) (A S : List Int32) (H : Nat → Int32), S.length + A.length ≤ q → q ≤ L → d ≤ 8 →
    (∀ H', (∀ j, j ≤ d → (H' j = 0 ↔ H j = 0)) → GD w L Φ d 0 (fls 6 S (E.map mc ++ A)).2 (fls 6 S (E.map mc ++ A)).1 q' H') → GD w L Φ d 1 A S q H
def MT (r d q : Nat) (E : List Int32) (q' : Nat) : Prop :=
  ∀ (Φ : PHI) (A1 S1 B S : List Int32) (H : Nat → Int32), fls (r + 1) S1 A1 = (S, B) → S1.length + A1.length ≤ q → q ≤ L → d ≤ 8 → tLt (r + 1) S → (r = 2 → H d = 0) → EX (r + 1) (ah c L q) (H d) →
    (∀ S' A' H', fls (r + 1) S' A' = (S, E.map mc ++ B) → S'.length + A'.length ≤ q' → (∀ j, j < d → (H' j = 0 ↔ H j = 0)) → (3 ≤ r → (H' d = 0 ↔ H d = 0)) → EX r (ah c L q') (H' d) → GD w L Φ d 0 A' S' q' H') → GD w L Φ d 0 A1 S1 q H
def MOT (t d q : Nat) (E : List Int32) (q' : Nat) : Prop := if t ≤ 4 then ML w c L t d q E q' else if t ≤ 6 then MU w L d q E q' else MT w c L (t - 10) d q E q'
theorem ML_of_MU (hT : TXT c L) {d q q' : Nat} {E : List Int32} (h : MU w L d q E q') (hlen : E.length + q ≤ q') : ML w c L 5 d q E q' := by
  intro Φ A S H h1 h2 h3 h4 h5 hk
  have h4' : tLt 6 S := h4
  refine h Φ A S H h1 h2 h3 (fun H' hH => ?_)
  rw [fls_top h4']
  refine hk S (E.map mc ++ A) H' (fls_top h4' _) (by rw [List.length_append, List.length_map]; omega) (fun j hj => hH j (by omega)) (fun _ => hH d (Nat.le_refl d)) (Or.inl (by omega))
theorem ML_of (hT : TXT c L) {r d q q' : Nat} {E : List Int32} (hr : r ≤ 5) (h : MOT w c L r d q E q') (hlen : E.length + q ≤ q') : ML w c L r d q E q' := by
  unfold MOT at h
  by_cases e : r ≤ 4
  · rw [if_pos e] at h; exact h
  · rw [if_neg e, if_pos (by omega)] at h
    have e5 : r = 5 := by omega
    subst e5
    exact ML_of_MU w c L hT h hlen
variable {w c L}
theorem m_ps (hw : w 7 = nI L) (hf : ∀ j, j < L → w (115 + j) = c j) (hT : TXT c L) {t d q q' : Nat} {E : List Int32} (h : PS c L t d q E q') : MOT w c L t d q E q' := by
  induction h using PS.ind with
  | @num d q h1 h2 =>
    show MU w L d q _ _
    intro Φ A S H a1 a2 a3 hk
    refine m_num hw hf hT a2 a1 h1 h2 (fun v hv => ?_)
    have hm : [nI (nv c (sk c L q) (dE c L (sk c L q) - sk c L q))].map mc ++ A = v :: A := by
      rw [hv, List.map_cons, mc_num]
      · rfl
      · have hs : ∀ k p, k ≤ 6 → p + k ≤ L → nv c p k + 9 ≤ 10 ^ k * 9 := by
          intro k p hk6 hpk
          induction k with
          | zero => simp [nv]
          | succ k ih =>
            have i1 := ih (by omega) (by omega)
            have i2 := (hT.2 (p + k) (by omega)).2
            rw [nv, Nat.pow_succ]
            omega
        have g3 := dE_le c L _ (sk c L q) (Nat.le_refl _) (sk_le c L _ q (Nat.le_refl _) a2)
        have g4 := dE_ge c L _ (sk c L q) (Nat.le_refl _)
        have := hs (dE c L (sk c L q) - sk c L q) (sk c L q) h2 (by omega)
        have h10 : 10 ^ (dE c L (sk c L q) - sk c L q) ≤ 10 ^ 6 := Nat.pow_le_pow_right (by omega) h2
        omega
    have := hk H (fun _ _ => Iff.rfl)
    rw [hm] at this
    exact this
  | @nam d q h1 =>
    show MU w L d q _ _
    intro Φ A S H a1 a2 a3 hk
    refine m_nam hw hf hT a2 a1 h1 ?_
    have := hk H (fun _ _ => Iff.rfl)
    rw [List.map_cons, mc_nam h1] at this
    exact this
  | @par d q q1 E h1 h2 h3 h4 ih =>
    show MU w L d q _ _
    intro Φ A S H a1 a2 a3 hk
    have ha := ah_ne hT (q := q) (by rw [h1]; decide)
    have g1 := sk_ge c L _ q (Nat.le_refl _)
    have g2 := ps_len hT h3
    have ih' : ML w c L 0 (d + 1) (sk c L q + 1) E q1 := ih
    refine m_open hw hf hT a2 a1 h1 h2 ?_
    refine ih' Φ A (40 :: S) (upd H (d + 1) 0) (by rw [List.length_cons]; omega) (by omega) (by omega) (by show hN 40 < 1; decide) (fun _ => by rw [upd_eq, if_pos rfl]) ?_
    intro S' A' H' k1 k2 k3 k4 k5
    refine m_close hw hf hT (g2.2.2 (by omega)) k2 h2 h4 k1 ?_
    exact hk H' (fun j hj => by rw [k3 j (by omega), upd_eq, if_neg (by omega)])
  | @opd d q q' E h1 h2 ih =>
    show MU w L d q _ _
    intro Φ A S H a1 a2 a3 hk
    have g1 := sk_ge c L _ q (Nat.le_refl _)
    have g2 := sk_le c L _ q (Nat.le_refl _) a2
    have ih' : MU w L d (sk c L q) E q' := ih
    exact gd_sk hw hf hT a2 (ih' Φ A S H (by omega) g2 a3 hk)
  | @pre d q q' E h1 h2 ih =>
    show MU w L d q _ _
    intro Φ A S H a1 a2 a3 hk
    have ha := ah_ne hT (pf_ne h1).1
    have g1 := sk_ge c L _ q (Nat.le_refl _)
    have ih' : MU w L d (sk c L q + 1) E q' := ih
    refine m_pre hw hf hT a2 a1 h1 ?_
    refine ih' Φ A _ H (by rw [List.length_cons]; omega) (by omega) a3 (fun H' hH => ?_)
    have := hk H' hH
    rw [List.map_cons, mc_sg h1] at this
    rw [fls, if_pos (by rw [hN_sg h1]; omega)]
    exact this
  | @lev r d q q1 q' E1 E2 h1 h2 h3 ih1 ih2 =>
    have g1 := ps_len hT h2
    have g2 := ps_len hT h3
    have ih1' := ML_of w c L hT (by omega) ih1 g1.1
    have ih2' : MT w c L r d q1 E2 q' := by
      unfold MOT at ih2
      rw [if_neg (by omega), if_neg (by omega), show 10 + r - 10 = r by omega] at ih2
      exact ih2
    unfold MOT
    rw [if_pos h1]
    intro Φ A S H a1 a2 a3 a4 a5 hk
    refine ih1' Φ A S H a1 a2 a3 ?_ (fun h => a5 (by omega)) ?_
    · cases S with
      | nil => trivial
      | cons x S => have : hN x < r + 1 := a4; show hN x < r + 1 + 1; omega
    · intro S' A' H' k1 k2 k3 k4 k5
      refine ih2' Φ A' S' (E1.map mc ++ A) S H' ?_ k2 (g1.2.2 a2) a3 a4 ?_ k5 ?_
      · have := fls_two (show r + 1 ≤ r + 1 + 1 by omega) S' A'
        rw [k1] at this
        rw [← this]
        exact fls_top a4 _
      · intro e
        exact (k4 (by omega)).mpr (a5 (by omega))
      · intro S'' A'' H'' m1 m2 m3 m4 m5
        rw [List.map_append, List.append_assoc] at hk
        exact hk S'' A'' H'' m1 m2 (fun j hj => (m3 j hj).trans (k3 j hj)) (fun h => (m4 h).trans (k4 (by omega))) m5
  | @tend r d q h1 h2 =>
    have hh : MT w c L r d q [] (sk c L q) := by
      intro Φ A1 S1 B S H a1 a2 a3 a4 a5 a6 a7 hk
      have g1 := sk_ge c L _ q (Nat.le_refl _)
      refine gd_sk hw hf hT a3 (hk S1 A1 H a1 (by omega) (fun _ _ => Iff.rfl) (fun _ => Iff.rfl) ?_)
      rw [ah_sk]
      rcases a7 with h | h
      · exact Or.inl (by omega)
      · exact Or.inr ⟨h.1, h.2.1, by omega⟩
    unfold MOT
    rw [if_neg (by omega), if_neg (by omega), show 10 + r - 10 = r by omega]
    exact hh
  | @tcmp d q q1 E h1 h2 ih =>
    have ih' : ML w c L 3 d (sk c L q + 1) E q1 := ih
    show MT w c L 2 d q _ _
    intro Φ A1 S1 B S H a1 a2 a3 a4 a5 a6 a7 hk
    have ha := ah_ne hT (rk_ne (x := ah c L q) (by omega)).1
    have g1 := sk_ge c L _ q (Nat.le_refl _)
    have hlen := fls_len 3 S1 A1
    rw [a1] at hlen
    dsimp only at hlen
    refine m_op hw hf hT a3 a4 a2 (by omega) h1 a6 a1 (fun H1 b1 b2 b3 b4 => ?_)
    refine ih' Φ B _ H1 (by rw [List.length_cons]; omega) (by omega) a4 (by show hN _ < 4; rw [hN_op h1 (by omega)]; omega) (fun h => by omega) ?_
    intro S' A' H' k1 k2 k3 k4 k5
    refine hk S' A' H' ?_ k2 (fun j hj => (k3 j hj).trans (b1 j hj)) (fun h => by omega) ?_
    · have := fls_two (show 3 ≤ 4 by omega) S' A'
      rw [k1] at this
      rw [← this]
      dsimp only
      rw [fls, if_pos (by rw [hN_op h1 (by omega)]; omega), List.map_cons, mc_op (by omega)]
      exact fls_top a5 _
    · by_cases e : rkN (ah c L q1) = 2
      · exact Or.inr ⟨e, fun hz => b4 rfl ((k4 (by omega)).mp hz), by omega⟩
      · rcases k5 with h | h
        · exact Or.inl (by omega)
        · omega
  | @tstep r d q q1 q' E1 E2 h1 h2 h3 h4 h5 ih1 ih2 =>
    have g4 := ps_len hT h4
    have ih1' := ML_of w c L hT (by omega) ih1 g4.1
    have ih2' : MT w c L r d q1 E2 q' := by
      unfold MOT at ih2
      rw [if_neg (by omega), if_neg (by omega), show 10 + r - 10 = r by omega] at ih2
      exact ih2
    have hh : MT w c L r d q (E2 ++ (-(ah c L q) :: E1)) q' := by
      intro Φ A1 S1 B S H a1 a2 a3 a4 a5 a6 a7 hk
      have ha := ah_ne hT (rk_ne (x := ah c L q) (by omega)).1
      have g1 := sk_ge c L _ q (Nat.le_refl _)
      have hlen := fls_len (r + 1) S1 A1
      rw [a1] at hlen
      dsimp only at hlen
      refine m_op hw hf hT a3 a4 a2 h1 h3 (fun e => absurd e h2) a1 (fun H1 b1 b2 b3 b4 => ?_)
      refine ih1' Φ B _ H1 (by rw [List.length_cons]; omega) (by omega) a4 (by show hN _ < r + 1 + 1; rw [hN_op h3 (by omega)]; omega) (fun h => b3 (by omega)) ?_
      intro S' A' H' k1 k2 k3 k4 k5
      refine ih2' Φ A' S' (-(ah c L q) :: (E1.map mc ++ B)) S H' ?_ k2 (g4.2.2 (by omega)) a4 a5 (fun e => absurd e h2) k5 ?_
      · have := fls_two (show r + 1 ≤ r + 1 + 1 by omega) S' A'
        rw [k1] at this
        rw [← this]
        dsimp only
        rw [fls, if_pos (by rw [hN_op h3 (by omega)]; omega)]
        exact fls_top a5 _
      · intro S'' A'' H'' m1 m2 m3 m4 m5
        rw [List.map_append, List.append_assoc, List.map_cons, mc_op (by omega)] at hk
        exact hk S'' A'' H'' m1 m2 (fun j hj => ((m3 j hj).trans (k3 j hj)).trans (b1 j hj)) (fun h => ((m4 h).trans (k4 (by omega))).trans (b2 h)) m5
    unfold MOT
    rw [if_neg (by omega), if_neg (by omega), show 10 + r - 10 = r by omega]
    exact hh
end
