/-! THE RULE: what it tells, on both sides -/
def KN (a b k d e f : Int32) : Nat → Int32 := fun i => if i = 0 then a else if i = 1 then b else if i = 2 then k else if i = 3 then d else if i = 4 then e else f
section
variable {E : List Int32} {act w : Nat → Int32} {cl su ot pe : Int32}
theorem m_step (e : Int32) (he : OKe e) (sz i n : Nat) (hi : i < sz) (hz : sz ≤ 40) (hr : act i = mc e) (f : Nat → Int64) (st0 st : List Int64) (hev : ev1 (KN cl su ot pe (w 2) (w 0)) e st0 = some st) (hl : st0.length ≤ i) (h64 : S64 f st0) :
    ∃ f', g_X11_tells_6 (nI sz) act w cl su ot pe (n + 1) (nI st0.length) (nI i) f = g_X11_tells_6 (nI sz) act w cl su ot pe n (nI st.length) (nI (i + 1)) f' ∧ S64 f' st := by
  rw [g_X11_tells_6]
  unfold g_X11_tells_6b
  simp (disch := omega) only [n_z1, n_z2, n_z3, n_z4, n_z5, n_z6, n_z7, n_z8, n_leL, n_leR, n_ltL, n_ltR, n_eqL, n_eqR, n_m1R, n_addL, n_addR, n_mulL, n_mulR, n_subR, n_subL, n_add, n_mul, n_neg, n_sub, n_le, n_lt, n_eq, nI_clamp, if_true, if_false, if_pos, if_neg, or_false, false_or, not_false_eq_true, not_true_eq_false, hr]
  cases he using OKe.cs with
  | no =>
    cases st0 with
    | nil => cases hev
    | cons v s =>
      have hh : some ((if v = 0 then 1 else 0) :: s) = some st := hev
      have hst := Option.some.inj hh
      subst hst
      rw [List.length_cons] at hl ⊢
      rw [if_pos (by decide), m_isName, pb_some, if_pos (by decide), if_pos (by decide)]
      unfold g_X11_tells_174 g_X11_tells_241
      simp (disch := omega) only [n_z1, n_z2, n_z3, n_z4, n_z5, n_z6, n_z7, n_z8, n_leL, n_leR, n_ltL, n_ltR, n_eqL, n_eqR, n_m1R, n_addL, n_addR, n_mulL, n_mulR, n_subR, n_subL, n_add, n_mul, n_neg, n_sub, n_le, n_lt, n_eq, nI_clamp, if_true, if_false, if_pos, if_neg, or_false, false_or, not_false_eq_true, not_true_eq_false, Nat.add_sub_cancel, lg_eq0]
      rw [h64.1, List.length_cons]
      by_cases hv : v = 0
      · rw [if_pos hv, if_pos hv]
        exact ⟨_, rfl, s64_push _ h64.2⟩
      · rw [if_neg hv, if_neg hv]
        exact ⟨_, rfl, s64_push _ h64.2⟩
  | ng =>
    cases st0 with
    | nil => cases hev
    | cons v s =>
      have hh : some (-v :: s) = some st := hev
      have hst := Option.some.inj hh
      subst hst
      rw [List.length_cons] at hl ⊢
      rw [if_pos (by decide), m_isName, pb_some, if_pos (by decide), if_neg (by decide), if_pos (by decide)]
      unfold g_X11_tells_241
      simp (disch := omega) only [n_z1, n_z2, n_z3, n_z4, n_z5, n_z6, n_z7, n_z8, n_leL, n_leR, n_ltL, n_ltR, n_eqL, n_eqR, n_m1R, n_addL, n_addR, n_mulL, n_mulR, n_subR, n_subL, n_add, n_mul, n_neg, n_sub, n_le, n_lt, n_eq, nI_clamp, if_true, if_false, if_pos, if_neg, or_false, false_or, not_false_eq_true, not_true_eq_false, Nat.add_sub_cancel]
      rw [h64.1, List.length_cons]
      exact ⟨_, rfl, s64_push _ h64.2⟩
  | @op x hx =>
    have h3 : mc (-x) < 0 ∧ nmN (-mc (-x)) = 9 ∧ ¬ (mc (-x) = -33) ∧ ¬ (mc (-x) = -126) ∧ -mc (-x) = x := by
      rcases rk_cases hx with e | e | e | e | e | e | e | e | e <;> subst e <;> decide
    cases st0 with
    | nil =>
      unfold ev1 at hev
      have h4 : ¬ (-x = -33) ∧ ¬ (-x = -126) ∧ -x < -6 := by
        rcases rk_cases hx with e | e | e | e | e | e | e | e | e <;> subst e <;> decide
      rw [if_neg h4.1, if_neg h4.2.1, if_pos h4.2.2] at hev
      cases hev
    | cons y s =>
      cases s with
      | nil =>
        unfold ev1 at hev
        have h4 : ¬ (-x = -33) ∧ ¬ (-x = -126) ∧ -x < -6 := by
          rcases rk_cases hx with e | e | e | e | e | e | e | e | e <;> subst e <;> decide
        rw [if_neg h4.1, if_neg h4.2.1, if_pos h4.2.2] at hev
        cases hev
      | cons a s =>
        rw [ev_op hx] at hev
        have hst := Option.some.inj hev
        subst hst
        rw [List.length_cons, List.length_cons] at hl ⊢
        rw [if_pos h3.1, m_isName, pb_some, if_pos (by rw [if_pos h3.2.1]), if_neg h3.2.2.1, if_neg h3.2.2.2.1]
        unfold g_X11_tells_241
        rw [h3.2.2.2.2]
        simp (disch := omega) only [n_z1, n_z2, n_z3, n_z4, n_z5, n_z6, n_z7, n_z8, n_leL, n_leR, n_ltL, n_ltR, n_eqL, n_eqR, n_m1R, n_addL, n_addR, n_mulL, n_mulR, n_subR, n_subL, n_add, n_mul, n_neg, n_sub, n_le, n_lt, n_eq, nI_clamp, if_true, if_false, if_pos, if_neg, or_false, false_or, not_false_eq_true, not_true_eq_false, m_worked, pb_some]
        rw [List.length_cons, show s.length + 1 + 1 - 1 - 1 = s.length by omega, show s.length + 1 + 1 - 1 = s.length + 1 by omega]
        have q1 : f (s.length + 1) = y := h64.1
        have q2 : f s.length = a := h64.2.1
        rw [q1, q2]
        exact ⟨_, rfl, s64_push _ h64.2.2⟩
  | @nm k hk =>
    rw [ev_nm hk] at hev
    have hst := Option.some.inj hev
    subst hst
    rw [List.length_cons]
    unfold g_X11_tells_133 g_X11_tells_241
    rcases (show k = 0 ∨ k = 1 ∨ k = 2 ∨ k = 3 ∨ k = 4 ∨ k = 5 by omega) with e | e | e | e | e | e <;> subst e
    · rw [show mc (-1 - nI 0) = -99 by decide, if_pos (by decide), m_isName, pb_some, if_neg (by decide), if_pos rfl]
      simp (disch := omega) only [n_z1, n_z2, n_z3, n_z4, n_z5, n_z6, n_z7, n_z8, n_leL, n_leR, n_ltL, n_ltR, n_eqL, n_eqR, n_m1R, n_addL, n_addR, n_mulL, n_mulR, n_subR, n_subL, n_add, n_mul, n_neg, n_sub, n_le, n_lt, n_eq, nI_clamp, if_true, if_false, if_pos, if_neg, or_false, false_or, not_false_eq_true, not_true_eq_false]
      exact ⟨_, rfl, s64_push _ h64⟩
    · rw [show mc (-1 - nI 1) = -115 by decide, if_pos (by decide), m_isName, pb_some, if_neg (by decide), if_neg (by decide), if_pos rfl]
      simp (disch := omega) only [n_z1, n_z2, n_z3, n_z4, n_z5, n_z6, n_z7, n_z8, n_leL, n_leR, n_ltL, n_ltR, n_eqL, n_eqR, n_m1R, n_addL, n_addR, n_mulL, n_mulR, n_subR, n_subL, n_add, n_mul, n_neg, n_sub, n_le, n_lt, n_eq, nI_clamp, if_true, if_false, if_pos, if_neg, or_false, false_or, not_false_eq_true, not_true_eq_false]
      exact ⟨_, rfl, s64_push _ h64⟩
    · rw [show mc (-1 - nI 2) = -111 by decide, if_pos (by decide), m_isName, pb_some, if_neg (by decide), if_neg (by decide), if_neg (by decide), if_pos rfl]
      simp (disch := omega) only [n_z1, n_z2, n_z3, n_z4, n_z5, n_z6, n_z7, n_z8, n_leL, n_leR, n_ltL, n_ltR, n_eqL, n_eqR, n_m1R, n_addL, n_addR, n_mulL, n_mulR, n_subR, n_subL, n_add, n_mul, n_neg, n_sub, n_le, n_lt, n_eq, nI_clamp, if_true, if_false, if_pos, if_neg, or_false, false_or, not_false_eq_true, not_true_eq_false]
      exact ⟨_, rfl, s64_push _ h64⟩
    · rw [show mc (-1 - nI 3) = -112 by decide, if_pos (by decide), m_isName, pb_some, if_neg (by decide), if_neg (by decide), if_neg (by decide), if_neg (by decide), if_pos rfl]
      simp (disch := omega) only [n_z1, n_z2, n_z3, n_z4, n_z5, n_z6, n_z7, n_z8, n_leL, n_leR, n_ltL, n_ltR, n_eqL, n_eqR, n_m1R, n_addL, n_addR, n_mulL, n_mulR, n_subR, n_subL, n_add, n_mul, n_neg, n_sub, n_le, n_lt, n_eq, nI_clamp, if_true, if_false, if_pos, if_neg, or_false, false_or, not_false_eq_true, not_true_eq_false]
      exact ⟨_, rfl, s64_push _ h64⟩
    · rw [show mc (-1 - nI 4) = -98 by decide, if_pos (by decide), m_isName, pb_some, if_neg (by decide), if_neg (by decide), if_neg (by decide), if_neg (by decide), if_neg (by decide), if_pos rfl]
      simp (disch := omega) only [n_z1, n_z2, n_z3, n_z4, n_z5, n_z6, n_z7, n_z8, n_leL, n_leR, n_ltL, n_ltR, n_eqL, n_eqR, n_m1R, n_addL, n_addR, n_mulL, n_mulR, n_subR, n_subL, n_add, n_mul, n_neg, n_sub, n_le, n_lt, n_eq, nI_clamp, if_true, if_false, if_pos, if_neg, or_false, false_or, not_false_eq_true, not_true_eq_false]
      exact ⟨_, rfl, s64_push _ h64⟩
    · rw [show mc (-1 - nI 5) = -102 by decide, if_pos (by decide), m_isName, pb_some, if_neg (by decide), if_neg (by decide), if_neg (by decide), if_neg (by decide), if_neg (by decide), if_neg (by decide)]
      simp (disch := omega) only [n_z1, n_z2, n_z3, n_z4, n_z5, n_z6, n_z7, n_z8, n_leL, n_leR, n_ltL, n_ltR, n_eqL, n_eqR, n_m1R, n_addL, n_addR, n_mulL, n_mulR, n_subR, n_subL, n_add, n_mul, n_neg, n_sub, n_le, n_lt, n_eq, nI_clamp, if_true, if_false, if_pos, if_neg, or_false, false_or, not_false_eq_true, not_true_eq_false]
      exact ⟨_, rfl, s64_push _ h64⟩
  | @nu v hv =>
    rw [ev_nu hv] at hev
    have hst := Option.some.inj hev
    subst hst
    rw [mc_num v hv, if_neg (nI_pos hv)]
    unfold g_X11_tells_241
    simp (disch := omega) only [n_z1, n_z2, n_z3, n_z4, n_z5, n_z6, n_z7, n_z8, n_leL, n_leR, n_ltL, n_ltR, n_eqL, n_eqR, n_m1R, n_addL, n_addR, n_mulL, n_mulR, n_subR, n_subL, n_add, n_mul, n_neg, n_sub, n_le, n_lt, n_eq, nI_clamp, if_true, if_false, if_pos, if_neg, or_false, false_or, not_false_eq_true, not_true_eq_false]
    rw [List.length_cons]
    exact ⟨_, rfl, s64_push _ h64⟩
theorem m_run (sz : Nat) (hz : sz ≤ 40) : ∀ (E : List Int32) (n : Nat) (f : Nat → Int64) (st : List Int64), (∀ e, e ∈ E → OKe e) → E.length ≤ sz → Stk act (E.map mc) → evs (KN cl su ot pe (w 2) (w 0)) E [] = some st →
    ∃ f', g_X11_tells_6 (nI sz) act w cl su ot pe (n + E.length) 0 0 f = g_X11_tells_6 (nI sz) act w cl su ot pe n (nI st.length) (nI E.length) f' ∧ S64 f' st ∧ st.length ≤ E.length
  | [], n, f, st, _, _, _, h => by
    have := Option.some.inj h
    subst this
    exact ⟨f, rfl, trivial, Nat.le_refl 0⟩
  | e :: E, n, f, st, hok, hl, hS, h => by
    rw [evs] at h
    cases h0 : evs (KN cl su ot pe (w 2) (w 0)) E [] with
    | none => rw [h0] at h; cases h
    | some st0 =>
      rw [h0] at h
      have h : ev1 (KN cl su ot pe (w 2) (w 0)) e st0 = some st := h
      rw [List.length_cons] at hl ⊢
      have hS1 : act E.length = mc e := by have := hS.1; rw [List.length_map] at this; exact this
      obtain ⟨f1, k1, k2, k3⟩ := m_run sz hz E (n + 1) f st0 (fun e he => hok e (List.mem_cons_of_mem _ he)) (by omega) hS.2 h0
      obtain ⟨f2, m1, m2⟩ := m_step (act := act) (w := w) e (hok e (List.mem_cons_self ..)) sz E.length n (by omega) hz hS1 f1 st0 st h k3 k2
      refine ⟨f2, ?_, m2, by have := ev1_len h; omega⟩
      rw [show n + (E.length + 1) = n + 1 + E.length by omega, k1, m1]
theorem m_tells (hok : ∀ e, e ∈ E → OKe e) (hl : E.length ≤ 40) (hS : Stk act (E.map mc)) {v : Int64} (h : evs (KN cl su ot pe (w 2) (w 0)) E [] = some [v]) (f : Nat → Int64) : ∃ f', g_X11_tells (nI E.length) act w cl su ot pe f = some (v, f') := by
  obtain ⟨f', k1, k2, k3⟩ := m_run E.length hl E (65536 - E.length) f [v] hok (Nat.le_refl _) hS h
  rw [show 65536 - E.length + E.length = zF by show _ = 65536; omega] at k1
  unfold g_X11_tells
  rw [k1, show 65536 - E.length = 65535 - E.length + 1 by omega, g_X11_tells_6]
  unfold g_X11_tells_6b
  rw [if_pos (nI_le (Nat.le_refl _) (by omega))]
  have q : f' 0 = v := k2.1
  rw [q]
  exact ⟨f', rfl⟩
end
theorem ev1_congr {k1 k2 : Nat → Int32} (hk : ∀ i, i < 6 → k1 i = k2 i) (e : Int32) (he : OKe e) (s : List Int64) : ev1 k1 e s = ev1 k2 e s := by
  cases he using OKe.cs with
  | no => unfold ev1; rw [if_pos rfl, if_pos rfl]
  | ng => unfold ev1; rw [if_neg (by decide), if_pos rfl]; rfl
  | @op x hx =>
    unfold ev1
    have h4 : ¬ (-x = -33) ∧ ¬ (-x = -126) ∧ -x < -6 := by
      rcases rk_cases hx with e | e | e | e | e | e | e | e | e <;> subst e <;> decide
    rw [if_neg h4.1, if_neg h4.2.1, if_pos h4.2.2, if_neg h4.1, if_neg h4.2.1, if_pos h4.2.2]
  | @nm i hi => rw [ev_nm hi, ev_nm hi, hk i hi]
  | @nu v hv => rw [ev_nu hv, ev_nu hv]
theorem evs_congr {k1 k2 : Nat → Int32} (hk : ∀ i, i < 6 → k1 i = k2 i) (E : List Int32) (st : List Int64) (hok : ∀ e, e ∈ E → OKe e) : evs k1 E st = evs k2 E st := by
  induction E with
  | nil => rfl
  | cons e E ih =>
    rw [evs, evs, ih (fun e he => hok e (List.mem_cons_of_mem _ he))]
    congr 1
    funext s
    exact ev1_congr hk e (hok e (List.mem_cons_self ..)) s
abbrev TVT := Int32 → Int32 → Int32 → Int32 → Bool
/-- what the rule tells of a person: by clock, minute, others and number -/
def RT (c : Nat → Int32) (L : Nat) (bed fast : Int32) (size fault : Int32) (row : Nat → Int32) (tv : TVT) : Prop :=
  (fault = -1 ∧ ∃ E, PT c L E ∧ E.length ≤ L ∧ size = nI E.length ∧ Stk row E ∧ (∀ e, e ∈ E → OKe e) ∧ ∀ cl su ot pe, ∃ v, evs (KN cl su ot pe bed fast) E [] = some [v] ∧ tv cl su ot pe = decide (v ≠ 0)) ∨
  (∃ fl, PX c L fl ∧ fault = nI fl ∧ fl < 1000 ∧ tv = fun _ _ _ _ => false)
theorem rt_of {c : Nat → Int32} {L : Nat} (hT : TXT c L) {size fault : Int32} {row : Nat → Int32} (h : RX c L size fault row) (bed fast : Int32) : ∃ tv, RT c L bed fast size fault row tv := by
  rcases h with ⟨h1, E, h2, h3, h4, h5⟩ | ⟨fl, h1, h2, h3⟩
  · obtain ⟨q', k1, k2⟩ := h2
    refine ⟨fun cl su ot pe => decide ((((evs (KN cl su ot pe bed fast) E []).getD []).headD 0) ≠ 0), Or.inl ⟨h1, E, ⟨q', k1, k2⟩, h3, h4, h5, ps_ok hT k1 (by omega), fun cl su ot pe => ?_⟩⟩
    obtain ⟨v, hv⟩ := (ps_ev hT (KN cl su ot pe bed fast) k1 (by omega)).1 (by omega) []
    refine ⟨v, hv, ?_⟩
    show decide (((evs (KN cl su ot pe bed fast) E []).getD []).headD 0 ≠ 0) = _
    rw [hv]
    rfl
  · exact ⟨_, Or.inr ⟨fl, h1, h2, h3, rfl⟩⟩
theorem x_holds {c : Nat → Int32} {L : Nat} {SE row : Nat → Int32} {size fault : Int32} {tv : TVT} (hL : L ≤ 40) (h : RT c L (SE 2) (SE 0) size fault row tv) (pe su cl ot : Int32) (kn : Nat → Int32) (st : Nat → Int64) : ∃ kn' st', g_X8_holds size fault SE row pe su cl ot kn st = some (if tv cl su ot pe then 1 else 0, kn', st') := by
  unfold g_X8_holds
  rcases h with ⟨h1, E, h2, h3, h4, h5, h6, h7⟩ | ⟨fl, h1, h2, h3, h4⟩
  · rw [if_pos h1, h4]
    obtain ⟨v, k1, k2⟩ := h7 cl su ot pe
    rw [evs_congr (k2 := upd (upd (upd (upd (upd (upd kn 0 cl) 1 su) 2 ot) 3 pe) 4 (SE 2)) 5 (SE 0)) (fun i hi => by rcases (show i = 0 ∨ i = 1 ∨ i = 2 ∨ i = 3 ∨ i = 4 ∨ i = 5 by omega) with e | e | e | e | e | e <;> subst e <;> rfl) E [] h6] at k1
    obtain ⟨f', k3⟩ := x_worked h6 (by omega) h5 k1 st
    rw [k3, pb_some, k2]
    simp only [lg_eq0]
    by_cases hv : v = 0
    · rw [if_pos hv, if_neg (by simp [hv])]
      exact ⟨_, _, rfl⟩
    · rw [if_neg hv, if_pos (by simp [hv])]
      exact ⟨_, _, rfl⟩
  · rw [if_neg (by rw [h2]; exact nf_ne h3), h4]
    exact ⟨_, _, rfl⟩
/-- the reference's acts tell the same -/
def MRT (isR acts : Int32) (act w : Nat → Int32) (tv : TVT) : Prop :=
  (isR = 1 ∧ ∀ cl su ot pe f, ∃ v f', g_X11_tells acts act w cl su ot pe f = some (v, f') ∧ tv cl su ot pe = decide (v ≠ 0)) ∨ (isR = 0 ∧ tv = fun _ _ _ _ => false)
theorem m_rule {w c : Nat → Int32} {L : Nat} (hw : w 7 = nI L) (hf : ∀ j, j < L → w (115 + j) = c j) (hT : TXT c L) {size fault : Int32} {row : Nat → Int32} {tv : TVT} (h : RT c L (w 2) (w 0) size fault row tv) (a m p : Int32) (H W T : Nat → Int32) :
    ∃ a' m' p' H' W' T', g_X11_compile w a m p H W T = some (fault, a', m', p', H', W', T') ∧ MRT (if fault = -1 then 1 else 0) a' T' w tv := by
  have hL := hT.1
  rcases h with ⟨h1, E, h2, h3, h4, h5, h6, h7⟩ | ⟨fl, h1, h2, h3, h4⟩
  · obtain ⟨a', m', p', H', W', T', k1, k2, k3⟩ := m_compile_ok hw hf hT h2 a m p H W T
    subst h1 k2
    refine ⟨_, m', p', H', W', T', k1, Or.inl ⟨rfl, fun cl su ot pe f => ?_⟩⟩
    obtain ⟨v, q1, q2⟩ := h7 cl su ot pe
    obtain ⟨f', q3⟩ := m_tells h6 (by omega) k3 q1 f
    exact ⟨v, f', q3, q2⟩
  · subst h2
    obtain ⟨a', m', p', H', W', T', k1⟩ := m_compile_bad hw hf hT h1 a m p H W T
    exact ⟨a', m', p', H', W', T', k1, Or.inr ⟨by rw [if_neg (nf_ne h3)], h4⟩⟩
