/-! THE RULE: what it tells: a row of entries over a stack -/
def jnv (k : Int32) (x y : Int64) : Int64 := (g_X8_joined k x y).getD 0
theorem x_joined (k : Int32) (x y : Int64) : g_X8_joined k x y = some (jnv k x y) := by
  have h : (g_X8_joined k x y).isSome := by
    unfold g_X8_joined g_X8_joined_88
    simp only [lg_eq0]
    repeat' split
    all_goals first | rfl | (rename_i h1 h2; exact absurd h2 h1) | contradiction
  unfold jnv
  cases hh : g_X8_joined k x y with
  | none => rw [hh] at h; cases h
  | some v => rfl
theorem m_worked (k : Int32) (x y : Int64) : g_X11_worked k x y = some (jnv k x y) := by
  rw [← x_joined]
  unfold g_X8_joined g_X11_worked g_X8_joined_88 g_X11_worked_88
  rfl
def ev1 (kn : Nat → Int32) (e : Int32) (st : List Int64) : Option (List Int64) :=
  if e = -33 then (match st with | v :: s => some ((if v = 0 then 1 else 0) :: s) | [] => none)
  else if e = -126 then (match st with | v :: s => some (-v :: s) | [] => none)
  else if e < -6 then (match st with | y :: x :: s => some (jnv (-e) x y :: s) | _ => none)
  else some ((if e < 0 then (kn (-1 - e).toNatClampNeg).toInt64 else e.toInt64) :: st)
def evs (kn : Nat → Int32) : List Int32 → List Int64 → Option (List Int64)
  | [], st => some st
  | e :: E, st => (evs kn E st).bind (ev1 kn e)
theorem evs_app (kn : Nat → Int32) : ∀ (E2 E1 : List Int32) (st : List Int64), evs kn (E2 ++ E1) st = (evs kn E1 st).bind (evs kn E2)
  | [], E1, st => by
    rw [List.nil_append]
    cases evs kn E1 st <;> rfl
  | e :: E2, E1, st => by
    rw [List.cons_append, evs, evs_app kn E2 E1 st]
    cases evs kn E1 st <;> rfl
/-- what an entry may be -/
def OKe (e : Int32) : Prop := e = -33 ∨ e = -126 ∨ (∃ x : Int32, rkN x ≤ 4 ∧ e = -x) ∨ (∃ i : Nat, i < 6 ∧ e = -1 - nI i) ∨ (∃ v : Nat, v < 2 ^ 31 ∧ e = nI v)
theorem OKe.no : OKe (-33) := Or.inl rfl
theorem OKe.ng : OKe (-126) := Or.inr (Or.inl rfl)
theorem OKe.op {x : Int32} (h : rkN x ≤ 4) : OKe (-x) := Or.inr (Or.inr (Or.inl ⟨x, h, rfl⟩))
theorem OKe.nm {i : Nat} (h : i < 6) : OKe (-1 - nI i) := Or.inr (Or.inr (Or.inr (Or.inl ⟨i, h, rfl⟩)))
theorem OKe.nu {v : Nat} (h : v < 2 ^ 31) : OKe (nI v) := Or.inr (Or.inr (Or.inr (Or.inr ⟨v, h, rfl⟩)))
theorem OKe.cs {motive : (e : Int32) → OKe e → Prop} (no : motive (-33) OKe.no) (ng : motive (-126) OKe.ng) (op : ∀ {x : Int32} (h : rkN x ≤ 4), motive (-x) (OKe.op h)) (nm : ∀ {i : Nat} (h : i < 6), motive (-1 - nI i) (OKe.nm h)) (nu : ∀ {v : Nat} (h : v < 2 ^ 31), motive (nI v) (OKe.nu h)) {e : Int32} (h : OKe e) : motive e h := by
  rcases h with h | h | ⟨x, h1, h⟩ | ⟨i, h1, h⟩ | ⟨v, h1, h⟩ <;> subst h
  · exact no
  · exact ng
  · exact op h1
  · exact nm h1
  · exact nu h1
theorem neg_neg32 (x : Int32) : - -x = x := Int32.neg_neg
theorem ev_op {x : Int32} (h : rkN x ≤ 4) (kn : Nat → Int32) (a b : Int64) (st : List Int64) : ev1 kn (-x) (b :: a :: st) = some (jnv x a b :: st) := by
  unfold ev1
  have h3 : ¬ (-x = -33) ∧ ¬ (-x = -126) ∧ -x < -6 := by
    rcases rk_cases h with e | e | e | e | e | e | e | e | e <;> subst e <;> decide
  rw [if_neg h3.1, if_neg h3.2.1, if_pos h3.2.2, neg_neg32]
theorem ev_nm {i : Nat} (h : i < 6) (kn : Nat → Int32) (st : List Int64) : ev1 kn (-1 - nI i) st = some ((kn i).toInt64 :: st) := by
  have h3 : ¬ (-1 - nI i = -33) ∧ ¬ (-1 - nI i = -126) ∧ ¬ -1 - nI i < -6 ∧ -1 - nI i < 0 ∧ (-1 - (-1 - nI i)).toNatClampNeg = i := by
    rcases (show i = 0 ∨ i = 1 ∨ i = 2 ∨ i = 3 ∨ i = 4 ∨ i = 5 by omega) with e | e | e | e | e | e <;> subst e <;> decide
  unfold ev1
  rw [if_neg h3.1, if_neg h3.2.1, if_neg h3.2.2.1, if_pos h3.2.2.2.1, h3.2.2.2.2]
theorem nu_ne {v : Nat} (h : v < 2 ^ 31) (y : Int32) (hy : y.toInt < 0) : nI v ≠ y := fun e => by
  have := congrArg Int32.toInt e
  rw [nI_toInt h] at this
  omega
theorem ev_nu {v : Nat} (h : v < 2 ^ 31) (kn : Nat → Int32) (st : List Int64) : ev1 kn (nI v) st = some ((nI v).toInt64 :: st) := by
  unfold ev1
  have h1 : ¬ nI v < -6 := by
    rw [Int32.lt_iff_toInt_lt, nI_toInt h]
    have : (-6 : Int32).toInt = -6 := by decide
    omega
  rw [if_neg (nu_ne h _ (by decide)), if_neg (nu_ne h _ (by decide)), if_neg h1, if_neg (nI_pos h)]
theorem nv_le {c : Nat → Int32} {L : Nat} (hT : TXT c L) : ∀ (k p : Nat), k ≤ 6 → p + k ≤ L → nv c p k < 9000000 := by
  have hs : ∀ k p, p + k ≤ L → nv c p k + 9 ≤ 10 ^ k * 9 := by
    intro k p hpk
    induction k with
    | zero => simp [nv]
    | succ k ih =>
      have i1 := ih (by omega)
      have i2 := (hT.2 (p + k) (by omega)).2
      rw [nv, Nat.pow_succ]
      omega
  intro k p hk hp
  have := hs k p hp
  have h10 : 10 ^ k ≤ 10 ^ 6 := Nat.pow_le_pow_right (by omega) hk
  omega
theorem ps_ok {c : Nat → Int32} {L t d q q' : Nat} {E : List Int32} (hT : TXT c L) (h : PS c L t d q E q') : q ≤ L → ∀ e, e ∈ E → OKe e := by
  induction h using PS.ind with
  | @num d q h1 h2 =>
    intro hq e he
    have g3 := dE_le c L _ (sk c L q) (Nat.le_refl _) (sk_le c L _ q (Nat.le_refl _) hq)
    have g4 := dE_ge c L _ (sk c L q) (Nat.le_refl _)
    rw [List.mem_singleton.mp he]
    have := nv_le hT _ (sk c L q) h2 (by omega)
    exact OKe.nu (by omega)
  | @nam d q h1 =>
    intro hq e he
    rw [List.mem_singleton.mp he]
    exact OKe.nm (by omega)
  | @par d q q1 E h1 h2 h3 h4 ih =>
    intro hq
    have ha := ah_ne hT (q := q) (by rw [h1]; decide)
    exact ih (by omega)
  | @opd d q q' E h1 h2 ih => intro hq; exact ih (sk_le c L _ q (Nat.le_refl _) hq)
  | @pre d q q' E h1 h2 ih =>
    intro hq e he
    have ha := ah_ne hT (pf_ne h1).1
    rcases List.mem_cons.mp he with h | h
    · rw [h]
      rcases h1 with e1 | e1 <;> rw [e1]
      · exact OKe.no
      · exact OKe.ng
    · exact ih (by omega) e h
  | @lev r d q q1 q' E1 E2 h1 h2 h3 ih1 ih2 =>
    intro hq e he
    rcases List.mem_append.mp he with h | h
    · exact ih2 ((ps_len hT h2).2.2 hq) e h
    · exact ih1 hq e h
  | @tend r d q h1 h2 => intro hq e he; cases he
  | @tcmp d q q1 E h1 h2 ih =>
    intro hq e he
    have ha := ah_ne hT (rk_ne (x := ah c L q) (by omega)).1
    rcases List.mem_cons.mp he with h | h
    · rw [h]; exact OKe.op (by omega)
    · exact ih (by omega) e h
  | @tstep r d q q1 q' E1 E2 h1 h2 h3 h4 h5 ih1 ih2 =>
    intro hq e he
    have ha := ah_ne hT (rk_ne (x := ah c L q) (by omega)).1
    rcases List.mem_append.mp he with h | h
    · exact ih2 ((ps_len hT h4).2.2 (by omega)) e h
    · rcases List.mem_cons.mp h with h | h
      · rw [h]; exact OKe.op (by omega)
      · exact ih1 (by omega) e h
/-- a parse leaves one number behind -/
theorem ps_ev {c : Nat → Int32} {L t d q q' : Nat} {E : List Int32} (hT : TXT c L) (kn : Nat → Int32) (h : PS c L t d q E q') : q ≤ L → (t ≤ 6 → ∀ st, ∃ v, evs kn E st = some (v :: st)) ∧ (10 ≤ t → ∀ v st, ∃ v', evs kn E (v :: st) = some (v' :: st)) := by
  induction h using PS.ind with
  | @num d q h1 h2 =>
    intro hq
    refine ⟨fun _ st => ?_, fun h => by omega⟩
    have g3 := dE_le c L _ (sk c L q) (Nat.le_refl _) (sk_le c L _ q (Nat.le_refl _) hq)
    have g4 := dE_ge c L _ (sk c L q) (Nat.le_refl _)
    have := nv_le hT _ (sk c L q) h2 (by omega)
    exact ⟨_, ev_nu (by omega) kn st⟩
  | @nam d q h1 =>
    intro hq
    refine ⟨fun _ st => ?_, fun h => by omega⟩
    show ∃ v, (some st).bind (ev1 kn _) = _
    rw [pb_some]
    exact ⟨_, ev_nm (i := nmN (ah c L q)) (by omega) kn st⟩
  | @par d q q1 E h1 h2 h3 h4 ih =>
    intro hq
    have ha := ah_ne hT (q := q) (by rw [h1]; decide)
    exact ⟨fun _ st => (ih (by omega)).1 (by omega) st, fun h => by omega⟩
  | @opd d q q' E h1 h2 ih =>
    intro hq
    exact ⟨fun _ st => (ih (sk_le c L _ q (Nat.le_refl _) hq)).1 (by omega) st, fun h => by omega⟩
  | @pre d q q' E h1 h2 ih =>
    intro hq
    have ha := ah_ne hT (pf_ne h1).1
    refine ⟨fun _ st => ?_, fun h => by omega⟩
    obtain ⟨v, hv⟩ := (ih (by omega)).1 (by omega) st
    rw [evs, hv]
    rcases h1 with e1 | e1 <;> rw [e1]
    · exact ⟨_, rfl⟩
    · exact ⟨_, rfl⟩
  | @lev r d q q1 q' E1 E2 h1 h2 h3 ih1 ih2 =>
    intro hq
    refine ⟨fun _ st => ?_, fun h => by omega⟩
    obtain ⟨v, hv⟩ := (ih1 hq).1 (by omega) st
    obtain ⟨v', hv'⟩ := (ih2 ((ps_len hT h2).2.2 hq)).2 (by omega) v st
    rw [evs_app, hv]
    exact ⟨v', hv'⟩
  | @tend r d q h1 h2 =>
    intro hq
    exact ⟨fun h => by omega, fun _ v st => ⟨v, rfl⟩⟩
  | @tcmp d q q1 E h1 h2 ih =>
    intro hq
    have ha := ah_ne hT (rk_ne (x := ah c L q) (by omega)).1
    refine ⟨fun h => by omega, fun _ v st => ?_⟩
    obtain ⟨v1, hv⟩ := (ih (by omega)).1 (by omega) (v :: st)
    rw [evs, hv]
    exact ⟨_, ev_op (by omega) kn v v1 st⟩
  | @tstep r d q q1 q' E1 E2 h1 h2 h3 h4 h5 ih1 ih2 =>
    intro hq
    have ha := ah_ne hT (rk_ne (x := ah c L q) (by omega)).1
    refine ⟨fun h => by omega, fun _ v st => ?_⟩
    obtain ⟨v1, hv⟩ := (ih1 (by omega)).1 (by omega) (v :: st)
    obtain ⟨v2, hv2⟩ := (ih2 ((ps_len hT h4).2.2 (by omega))).2 (by omega) (jnv (ah c L q) v v1) st
    rw [evs_app, evs, hv]
    have := ev_op (x := ah c L q) (by omega) kn v v1 st
    show ∃ v', (ev1 kn _ _).bind _ = _
    rw [this]
    exact ⟨v2, hv2⟩
def S64 (f : Nat → Int64) : List Int64 → Prop
  | [] => True
  | v :: s => f s.length = v ∧ S64 f s
theorem updL_eq (f : Nat → Int64) (k : Nat) (x : Int64) (j : Nat) : vp_updL f k x j = if j = k then x else f j := rfl
theorem s64_upd {f : Nat → Int64} {s : List Int64} (k : Nat) (x : Int64) (hk : s.length ≤ k) (h : S64 f s) : S64 (vp_updL f k x) s := by
  induction s with
  | nil => exact trivial
  | cons e s ih =>
    rw [List.length_cons] at hk
    exact ⟨by rw [updL_eq, if_neg (by omega)]; exact h.1, ih (by omega) h.2⟩
theorem s64_push {f : Nat → Int64} {s : List Int64} (x : Int64) (h : S64 f s) : S64 (vp_updL f s.length x) (x :: s) := ⟨by rw [updL_eq, if_pos rfl], s64_upd _ _ (Nat.le_refl _) h⟩
theorem ev1_len {kn : Nat → Int32} {e : Int32} {st0 st : List Int64} (h : ev1 kn e st0 = some st) : st.length ≤ st0.length + 1 := by
  unfold ev1 at h
  split at h
  · split at h <;> simp_all <;> (subst h; simp)
  · split at h
    · split at h <;> simp_all <;> (subst h; simp)
    · split at h
      · split at h <;> simp_all <;> (subst h; simp; try omega)
      · have := Option.some.inj h
        subst this; simp

section
variable {E : List Int32} {kn row act : Nat → Int32}
theorem x_step (e : Int32) (he : OKe e) (size : Int32) (sz i n : Nat) (hs : size = nI sz) (hi : i < sz) (hz : sz ≤ 40) (hr : row i = e) (f : Nat → Int64) (st0 st : List Int64) (hev : ev1 kn e st0 = some st) (hl : st0.length ≤ i) (h64 : S64 f st0) :
    ∃ f', g_X8_worked_4 size row kn (n + 1) (nI st0.length) (nI i) f = g_X8_worked_4 size row kn n (nI st.length) (nI (i + 1)) f' ∧ S64 f' st := by
  subst hs
  rw [g_X8_worked_4]
  unfold g_X8_worked_4b
  simp (disch := omega) only [n_z1, n_z2, n_z3, n_z4, n_z5, n_z6, n_z7, n_z8, n_leL, n_leR, n_ltL, n_ltR, n_eqL, n_eqR, n_m1R, n_addL, n_addR, n_mulL, n_mulR, n_subR, n_subL, n_add, n_mul, n_neg, n_sub, n_le, n_lt, n_eq, nI_clamp, if_true, if_false, if_pos, if_neg, or_false, false_or, not_false_eq_true, not_true_eq_false, hr]
  cases he using OKe.cs with
  | no =>
    cases st0 with
    | nil => cases hev
    | cons v s =>
      have hh : some ((if v = 0 then 1 else 0) :: s) = some st := hev
      have hst := Option.some.inj hh
      subst hst
      rw [List.length_cons] at hl ⊢
      rw [if_pos rfl]
      unfold g_X8_worked_31 g_X8_worked_78 g_X8_worked_162
      simp (disch := omega) only [n_z1, n_z2, n_z3, n_z4, n_z5, n_z6, n_z7, n_z8, n_leL, n_leR, n_ltL, n_ltR, n_eqL, n_eqR, n_m1R, n_addL, n_addR, n_mulL, n_mulR, n_subR, n_subL, n_add, n_mul, n_neg, n_sub, n_le, n_lt, n_eq, nI_clamp, if_true, if_false, if_pos, if_neg, or_false, false_or, not_false_eq_true, not_true_eq_false, Nat.add_sub_cancel, lg_eq0]
      rw [if_neg (by decide), h64.1, List.length_cons]
      by_cases hv : v = 0
      · rw [if_pos hv, if_pos hv]
        exact ⟨_, rfl, s64_push _ h64.2⟩
      · rw [if_neg hv, if_neg hv]
        exact ⟨_, rfl, s64_push _ h64.2⟩
  | ng =>
    cases st0 with
    | nil => cases hev
    | cons v s =>
      have hh : some (-v :: s) = some st := hev
      have hst := Option.some.inj hh
      subst hst
      rw [List.length_cons] at hl ⊢
      rw [if_neg (by decide), if_pos rfl]
      unfold g_X8_worked_31 g_X8_worked_78 g_X8_worked_162
      simp (disch := omega) only [n_z1, n_z2, n_z3, n_z4, n_z5, n_z6, n_z7, n_z8, n_leL, n_leR, n_ltL, n_ltR, n_eqL, n_eqR, n_m1R, n_addL, n_addR, n_mulL, n_mulR, n_subR, n_subL, n_add, n_mul, n_neg, n_sub, n_le, n_lt, n_eq, nI_clamp, if_true, if_false, if_pos, if_neg, or_false, false_or, not_false_eq_true, not_true_eq_false, Nat.add_sub_cancel]
      rw [h64.1, List.length_cons]
      exact ⟨_, rfl, s64_push _ h64.2⟩
  | @op x hx =>
    have h3 : ¬ (-x = -33) ∧ ¬ (-x = -126) ∧ ¬ -6 ≤ -x ∧ -x < -6 := by
      rcases rk_cases hx with e | e | e | e | e | e | e | e | e <;> subst e <;> decide
    rw [if_neg h3.1, if_neg h3.2.1, if_neg h3.2.2.1]
    have hev' := hev
    unfold ev1 at hev'
    rw [if_neg h3.1, if_neg h3.2.1, if_pos h3.2.2.2, neg_neg32] at hev'
    cases st0 with
    | nil => cases hev'
    | cons y s =>
      cases s with
      | nil => cases hev'
      | cons a s =>
        have hst := Option.some.inj hev'
        subst hst
        rw [List.length_cons, List.length_cons] at hl ⊢
        unfold g_X8_worked_162
        rw [neg_neg32]
        simp (disch := omega) only [n_z1, n_z2, n_z3, n_z4, n_z5, n_z6, n_z7, n_z8, n_leL, n_leR, n_ltL, n_ltR, n_eqL, n_eqR, n_m1R, n_addL, n_addR, n_mulL, n_mulR, n_subR, n_subL, n_add, n_mul, n_neg, n_sub, n_le, n_lt, n_eq, nI_clamp, if_true, if_false, if_pos, if_neg, or_false, false_or, not_false_eq_true, not_true_eq_false, x_joined, pb_some]
        rw [List.length_cons, show s.length + 1 + 1 - 1 - 1 = s.length by omega, show s.length + 1 + 1 - 1 = s.length + 1 by omega]
        have q1 : f (s.length + 1) = y := h64.1
        have q2 : f s.length = a := h64.2.1
        rw [q1, q2]
        exact ⟨_, rfl, s64_push _ h64.2.2⟩
  | @nm k hk =>
    have h3 : ¬ (-1 - nI k = -33) ∧ ¬ (-1 - nI k = -126) ∧ -6 ≤ -1 - nI k ∧ -1 - nI k < 0 ∧ -1 - (-1 - nI k) = nI k := by
      rcases (show k = 0 ∨ k = 1 ∨ k = 2 ∨ k = 3 ∨ k = 4 ∨ k = 5 by omega) with e | e | e | e | e | e <;> subst e <;> decide
    rw [ev_nm hk] at hev
    have hst := Option.some.inj hev
    subst hst
    rw [if_neg h3.1, if_neg h3.2.1, if_pos h3.2.2.1, if_pos h3.2.2.2.1, h3.2.2.2.2]
    unfold g_X8_worked_158 g_X8_worked_162
    simp (disch := omega) only [n_z1, n_z2, n_z3, n_z4, n_z5, n_z6, n_z7, n_z8, n_leL, n_leR, n_ltL, n_ltR, n_eqL, n_eqR, n_m1R, n_addL, n_addR, n_mulL, n_mulR, n_subR, n_subL, n_add, n_mul, n_neg, n_sub, n_le, n_lt, n_eq, nI_clamp, if_true, if_false, if_pos, if_neg, or_false, false_or, not_false_eq_true, not_true_eq_false]
    rw [List.length_cons]
    exact ⟨_, rfl, s64_push _ h64⟩
  | @nu v hv =>
    rw [ev_nu hv] at hev
    have hst := Option.some.inj hev
    subst hst
    have h1 : -6 ≤ nI v := by
      rw [Int32.le_iff_toInt_le, nI_toInt hv]
      have : (-6 : Int32).toInt = -6 := by decide
      omega
    rw [if_neg (nu_ne hv _ (by decide)), if_neg (nu_ne hv _ (by decide)), if_pos h1, if_neg (nI_pos hv)]
    unfold g_X8_worked_158 g_X8_worked_162
    simp (disch := omega) only [n_z1, n_z2, n_z3, n_z4, n_z5, n_z6, n_z7, n_z8, n_leL, n_leR, n_ltL, n_ltR, n_eqL, n_eqR, n_m1R, n_addL, n_addR, n_mulL, n_mulR, n_subR, n_subL, n_add, n_mul, n_neg, n_sub, n_le, n_lt, n_eq, nI_clamp, if_true, if_false, if_pos, if_neg, or_false, false_or, not_false_eq_true, not_true_eq_false]
    rw [List.length_cons]
    exact ⟨_, rfl, s64_push _ h64⟩
theorem x_run (sz : Nat) (hz : sz ≤ 40) : ∀ (E : List Int32) (n : Nat) (f : Nat → Int64) (st : List Int64), (∀ e, e ∈ E → OKe e) → E.length ≤ sz → Stk row E → evs kn E [] = some st →
    ∃ f', g_X8_worked_4 (nI sz) row kn (n + E.length) 0 0 f = g_X8_worked_4 (nI sz) row kn n (nI st.length) (nI E.length) f' ∧ S64 f' st ∧ st.length ≤ E.length
  | [], n, f, st, _, _, _, h => by
    have := Option.some.inj h
    subst this
    exact ⟨f, rfl, trivial, Nat.le_refl 0⟩
  | e :: E, n, f, st, hok, hl, hS, h => by
    rw [evs] at h
    cases h0 : evs kn E [] with
    | none => rw [h0] at h; cases h
    | some st0 =>
      rw [h0] at h
      have h : ev1 kn e st0 = some st := h
      rw [List.length_cons] at hl ⊢
      obtain ⟨f1, k1, k2, k3⟩ := x_run sz hz E (n + 1) f st0 (fun e he => hok e (List.mem_cons_of_mem _ he)) (by omega) hS.2 h0
      obtain ⟨f2, m1, m2⟩ := x_step (row := row) (kn := kn) e (hok e (List.mem_cons_self ..)) (nI sz) sz E.length n rfl (by omega) hz hS.1 f1 st0 st h k3 k2
      refine ⟨f2, ?_, m2, by have := ev1_len h; omega⟩
      rw [show n + (E.length + 1) = n + 1 + E.length by omega, k1, m1]
theorem x_worked (hok : ∀ e, e ∈ E → OKe e) (hl : E.length ≤ 40) (hS : Stk row E) {v : Int64} (h : evs kn E [] = some [v]) (f : Nat → Int64) : ∃ f', g_X8_worked (nI E.length) row kn f = some (v, f') := by
  obtain ⟨f', k1, k2, k3⟩ := x_run E.length hl E (65536 - E.length) f [v] hok (Nat.le_refl _) hS h
  rw [show 65536 - E.length + E.length = zF by show _ = 65536; omega] at k1
  unfold g_X8_worked
  rw [k1, show 65536 - E.length = 65535 - E.length + 1 by omega, g_X8_worked_4]
  unfold g_X8_worked_4b
  rw [if_pos (nI_le (Nat.le_refl _) (by omega)), if_neg (by show ¬ nI 1 ≤ 0; decide)]
  have q : f' 0 = v := k2.1
  rw [q]
  exact ⟨f', rfl⟩
end
