/-! THE RULE: the reference finds the grammar's fault; both sides together -/
section
variable (w c : Nat → Int32) (L : Nat)
def FL (r d q f : Nat) : Prop :=
  ∀ (Φ : PHI) (A S : List Int32) (H : Nat → Int32), S.length + A.length ≤ q → q ≤ L → d ≤ 8 → tLt (r + 1) S → (r ≤ 2 → H d = 0) → (∀ a T, Φ (nI f) a T) → GD w L Φ d 1 A S q H
def FU (d q f : Nat) : Prop :=
  ∀ (Φ : PHI) (A S : List Int32) (H : Nat → Int32), S.length + A.length ≤ q → q ≤ L → d ≤ 8 → (∀ a T, Φ (nI f) a T) → GD w L Φ d 1 A S q H
def FT (r d q f : Nat) : Prop :=
  ∀ (Φ : PHI) (A1 S1 B S : List Int32) (H : Nat → Int32), fls (r + 1) S1 A1 = (S, B) → S1.length + A1.length ≤ q → q ≤ L → d ≤ 8 → tLt (r + 1) S → (r = 2 → H d = 0) → EX (r + 1) (ah c L q) (H d) → (∀ a T, Φ (nI f) a T) → GD w L Φ d 0 A1 S1 q H
def FOT (t d q f : Nat) : Prop := if t ≤ 4 then FL w L t d q f else if t ≤ 6 then FU w L d q f else FT w c L (t - 10) d q f
theorem FL_of {r d q f : Nat} (hr : r ≤ 5) (h : FOT w c L r d q f) : FL w L r d q f := by
  unfold FOT at h
  by_cases e : r ≤ 4
  · rw [if_pos e] at h; exact h
  · rw [if_neg e, if_pos (by omega)] at h
    exact fun Φ A S H a1 a2 a3 _ _ hk => h Φ A S H a1 a2 a3 hk
variable {w c L}
theorem tLt_mono {r : Nat} {S : List Int32} (h : tLt (r + 1) S) : tLt (r + 1 + 1) S := by
  cases S with
  | nil => trivial
  | cons x S => have : hN x < r + 1 := h; show hN x < r + 1 + 1; omega
theorem m_pf (hw : w 7 = nI L) (hf : ∀ j, j < L → w (115 + j) = c j) (hT : TXT c L) {t d q f : Nat} (h : PF c L t d q f) : FOT w c L t d q f := by
  induction h using PF.ind with
  | @longn d q h1 h2 =>
    show FU w L d q _
    exact fun Φ A S H a1 a2 a3 hk => m_longn hw hf hT a2 a1 h1 h2 hk
  | @deep d q h1 h2 =>
    show FU w L d q _
    intro Φ A S H a1 a2 a3 hk
    have e : d = 8 := by omega
    subst e
    exact m_deep hw hf hT a2 a1 h1 hk
  | @parf d q f h1 h2 h3 ih =>
    show FU w L d q _
    intro Φ A S H a1 a2 a3 hk
    have ha := ah_ne hT (q := q) (by rw [h1]; decide)
    have g1 := sk_ge c L _ q (Nat.le_refl _)
    have ih' : FL w L 0 (d + 1) (sk c L q + 1) f := ih
    refine m_open hw hf hT a2 a1 h1 h2 ?_
    exact ih' Φ A (40 :: S) (upd H (d + 1) 0) (by rw [List.length_cons]; omega) (by omega) (by omega) (by show hN 40 < 1; decide) (fun _ => by rw [upd_eq, if_pos rfl]) hk
  | @parx d q q1 E h1 h2 h3 h4 =>
    show FU w L d q _
    intro Φ A S H a1 a2 a3 hk
    have ha := ah_ne hT (q := q) (by rw [h1]; decide)
    have g1 := sk_ge c L _ q (Nat.le_refl _)
    have g2 := ps_len hT h3
    have ih' : ML w c L 0 (d + 1) (sk c L q + 1) E q1 := m_ps hw hf hT h3
    refine m_open hw hf hT a2 a1 h1 h2 ?_
    refine ih' Φ A (40 :: S) (upd H (d + 1) 0) (by rw [List.length_cons]; omega) (by omega) (by omega) (by show hN 40 < 1; decide) (fun _ => by rw [upd_eq, if_pos rfl]) ?_
    intro S' A' H' k1 k2 k3 k4 k5
    exact m_halt hw hf hT (g2.2.2 (by omega)) (by omega) (fun e => by omega) (fun _ => h4) k5 hk
  | @stray d q h1 h2 h3 h4 =>
    show FU w L d q _
    exact fun Φ A S H a1 a2 a3 hk => m_stray hw hf hT a2 a1 h1 h2 h3 h4 hk
  | @opdf d q f h1 h2 ih =>
    show FU w L d q _
    intro Φ A S H a1 a2 a3 hk
    have g1 := sk_ge c L _ q (Nat.le_refl _)
    have g2 := sk_le c L _ q (Nat.le_refl _) a2
    have ih' : FU w L d (sk c L q) f := ih
    exact gd_sk hw hf hT a2 (ih' Φ A S H (by omega) g2 a3 hk)
  | @pref d q f h1 h2 ih =>
    show FU w L d q _
    intro Φ A S H a1 a2 a3 hk
    have ha := ah_ne hT (pf_ne h1).1
    have g1 := sk_ge c L _ q (Nat.le_refl _)
    have ih' : FU w L d (sk c L q + 1) f := ih
    refine m_pre hw hf hT a2 a1 h1 ?_
    exact ih' Φ A _ H (by rw [List.length_cons]; omega) (by omega) a3 hk
  | @levf r d q f h1 h2 ih =>
    have ih' := FL_of w c L (by omega) ih
    unfold FOT
    rw [if_pos h1]
    intro Φ A S H a1 a2 a3 a4 a5 hk
    exact ih' Φ A S H a1 a2 a3 (tLt_mono a4) (fun h => a5 (by omega)) hk
  | @levt r d q q1 f E h1 h2 h3 ih =>
    have g1 := ps_len hT h2
    have ih1' := ML_of w c L hT (by omega) (m_ps hw hf hT h2) g1.1
    have ih2' : FT w c L r d q1 f := by
      unfold FOT at ih
      rw [if_neg (by omega), if_neg (by omega), show 10 + r - 10 = r by omega] at ih
      exact ih
    unfold FOT
    rw [if_pos h1]
    intro Φ A S H a1 a2 a3 a4 a5 hk
    refine ih1' Φ A S H a1 a2 a3 (tLt_mono a4) (fun h => a5 (by omega)) ?_
    intro S' A' H' k1 k2 k3 k4 k5
    refine ih2' Φ A' S' (E.map mc ++ A) S H' ?_ k2 (g1.2.2 a2) a3 a4 ?_ k5 hk
    · have := fls_two (show r + 1 ≤ r + 1 + 1 by omega) S' A'
      rw [k1] at this
      rw [← this]
      exact fls_top a4 _
    · intro e
      exact (k4 (by omega)).mpr (a5 (by omega))
  | @tstepf r d q f h1 h3 h4 ih =>
    have ih1' := FL_of w c L (by omega) ih
    have hh : FT w c L r d q f := by
      intro Φ A1 S1 B S H a1 a2 a3 a4 a5 a6 a7 hk
      have ha := ah_ne hT (rk_ne (x := ah c L q) (by omega)).1
      have g1 := sk_ge c L _ q (Nat.le_refl _)
      have hlen := fls_len (r + 1) S1 A1
      rw [a1] at hlen
      dsimp only at hlen
      refine m_op hw hf hT a3 a4 a2 h1 h3 a6 a1 (fun H1 b1 b2 b3 b4 => ?_)
      exact ih1' Φ B _ H1 (by rw [List.length_cons]; omega) (by omega) a4 (by show hN _ < r + 1 + 1; rw [hN_op h3 (by omega)]; omega) (fun h => b3 (by omega)) hk
    unfold FOT
    rw [if_neg (by omega), if_neg (by omega), show 10 + r - 10 = r by omega]
    exact hh
  | @tstept r d q q1 f E h1 h2 h3 h4 h5 ih =>
    have g4 := ps_len hT h4
    have ih1' := ML_of w c L hT (by omega) (m_ps hw hf hT h4) g4.1
    have ih2' : FT w c L r d q1 f := by
      unfold FOT at ih
      rw [if_neg (by omega), if_neg (by omega), show 10 + r - 10 = r by omega] at ih
      exact ih
    have hh : FT w c L r d q f := by
      intro Φ A1 S1 B S H a1 a2 a3 a4 a5 a6 a7 hk
      have ha := ah_ne hT (rk_ne (x := ah c L q) (by omega)).1
      have g1 := sk_ge c L _ q (Nat.le_refl _)
      have hlen := fls_len (r + 1) S1 A1
      rw [a1] at hlen
      dsimp only at hlen
      refine m_op hw hf hT a3 a4 a2 h1 h3 (fun e => absurd e h2) a1 (fun H1 b1 b2 b3 b4 => ?_)
      refine ih1' Φ B _ H1 (by rw [List.length_cons]; omega) (by omega) a4 (by show hN _ < r + 1 + 1; rw [hN_op h3 (by omega)]; omega) (fun h => b3 (by omega)) ?_
      intro S' A' H' k1 k2 k3 k4 k5
      refine ih2' Φ A' S' (-(ah c L q) :: (E.map mc ++ B)) S H' ?_ k2 (g4.2.2 (by omega)) a4 a5 (fun e => absurd e h2) k5 hk
      have := fls_two (show r + 1 ≤ r + 1 + 1 by omega) S' A'
      rw [k1] at this
      rw [← this]
      dsimp only
      rw [fls, if_pos (by rw [hN_op h3 (by omega)]; omega)]
      exact fls_top a5 _
    unfold FOT
    rw [if_neg (by omega), if_neg (by omega), show 10 + r - 10 = r by omega]
    exact hh
theorem m_compile_ok (hw : w 7 = nI L) (hf : ∀ j, j < L → w (115 + j) = c j) (hT : TXT c L) {E : List Int32} (h : PT c L E) (a m p : Int32) (H W T : Nat → Int32) :
    ∃ a' m' p' H' W' T', g_X11_compile w a m p H W T = some (-1, a', m', p', H', W', T') ∧ a' = nI E.length ∧ Stk T' (E.map mc) := by
  have hL := hT.1
  obtain ⟨q', h1, h2⟩ := h
  have g2 := ps_len hT h1
  have hm : ML w c L 0 0 0 E q' := m_ps hw hf hT h1
  have hg : GD w L (fun code a T' => code = -1 ∧ a = nI E.length ∧ Stk T' (E.map mc)) 0 1 [] [] 0 (upd H 0 0) := by
    refine hm _ [] [] (upd H 0 0) (Nat.le_refl 0) (by omega) (by omega) trivial (fun _ => by rw [upd_eq, if_pos rfl]) ?_
    intro S' A' H' k1 k2 k3 k4 k5
    refine m_end hw hf hT (g2.2.2 (by omega)) k2 h2 (fun T' hT' => ?_)
    rw [k1] at hT' ⊢
    rw [List.append_nil] at hT' ⊢
    exact ⟨rfl, by rw [List.length_map], hT'⟩
  obtain ⟨code, a1, m1, p1, H1, W1, T1, k1, k2, k3, k4⟩ := hg zF W T (by show _ < 65536; omega) trivial trivial
  subst k2
  exact ⟨a1, m1, p1, H1, W1, T1, k1, k3, k4⟩
theorem m_compile_bad (hw : w 7 = nI L) (hf : ∀ j, j < L → w (115 + j) = c j) (hT : TXT c L) {fl : Nat} (h : PX c L fl) (a m p : Int32) (H W T : Nat → Int32) :
    ∃ a' m' p' H' W' T', g_X11_compile w a m p H W T = some (nI fl, a', m', p', H', W', T') := by
  have hL := hT.1
  have hg : GD w L (fun code a T' => code = nI fl) 0 1 [] [] 0 (upd H 0 0) := by
    rcases h with h | ⟨E, q', h1, h2, h3⟩
    · have hm : FL w L 0 0 0 fl := m_pf hw hf hT h
      exact hm _ [] [] (upd H 0 0) (Nat.le_refl 0) (by omega) (by omega) trivial (fun _ => by rw [upd_eq, if_pos rfl]) (fun _ _ => rfl)
    · have g2 := ps_len hT h1
      have hm : ML w c L 0 0 0 E q' := m_ps hw hf hT h1
      refine hm _ [] [] (upd H 0 0) (Nat.le_refl 0) (by omega) (by omega) trivial (fun _ => by rw [upd_eq, if_pos rfl]) ?_
      intro S' A' H' k1 k2 k3 k4 k5
      exact m_halt hw hf hT (g2.2.2 (by omega)) (by omega) (fun _ => h2) (fun e => by omega) k5 (fun _ _ => by rw [h3])
  obtain ⟨code, a1, m1, p1, H1, W1, T1, k1, k2⟩ := hg zF W T (by show _ < 65536; omega) trivial trivial
  subst k2
  exact ⟨a1, m1, p1, H1, W1, T1, k1⟩
/-- both parsers say the same of a rule -/
theorem m_compile (hw : w 7 = nI L) (hf : ∀ j, j < L → w (115 + j) = c j) (hT : TXT c L) {size fault : Int32} {row : Nat → Int32} (h : RX c L size fault row) (a m p : Int32) (H W T : Nat → Int32) :
    ∃ a' m' p' H' W' T', g_X11_compile w a m p H W T = some (fault, a', m', p', H', W', T') := by
  rcases h with ⟨h1, E, h2, h3, h4, h5⟩ | ⟨fl, h1, h2, h3⟩
  · obtain ⟨a', m', p', H', W', T', k1, k2, k3⟩ := m_compile_ok hw hf hT h2 a m p H W T
    subst h1
    exact ⟨a', m', p', H', W', T', k1⟩
  · subst h2
    exact m_compile_bad hw hf hT h1 a m p H W T
end
