/-! THE TEXT OF A VALLEY: a token on both sides -/
section
variable {c f g : Nat → Int32} {n : Nat} {s s' : Int32}
theorem m_idle (kd : Int32) (h1 : kd ≠ 1) (h2 : kd ≠ 2) (a b : Int32) (va : Int64) : g_X11_next_161 s' g zF a b kd va = some (a, b, kd, va) := by
  rw [show zF = 65535 + 1 from rfl, g_X11_next_161]
  unfold g_X11_next_161b
  rw [if_neg h1, show zF = 65535 + 1 from rfl, g_X11_next_255]
  unfold g_X11_next_255b
  rw [if_neg h2]
theorem tok (hs : s = nI n) (hs' : s' = nI n) (hn : n ≤ 250) (hf : ∀ j, j < n → f j = c j) (hg : ∀ j, j < n → g j = c j) (hc : ∀ j, j < n → 0 ≤ (c j).toInt ∧ (c j).toInt ≤ 255) (tk fi nu be kd : Int32) (va : Int64) :
    ∀ (k z p : Nat), n - p = k → k < z → p ≤ n → ∃ b pl' tk' nu' at' kd' va', p ≤ b ∧ g_X6_advance_0 250 1 s f z (nI p) tk fi nu = some (pl', tk', nI b, nu') ∧ g_X11_next_0 s' g z (nI p) be kd va = some (at', nI b, kd', va') ∧ TR c n b pl' tk' (nI b) nu' at' (nI b) kd' va'
  | _, 0, _, _, h, _ => absurd h (Nat.not_lt_zero _)
  | k, z + 1, p, h1, h2, h3 => by
    rw [g_X6_advance_0, g_X11_next_0]
    unfold g_X6_advance_0b g_X11_next_0b g_X7_size
    rw [pb_some]
    by_cases e : n ≤ p
    · rw [if_pos (show s ≤ nI p by rw [hs]; simp (disch := omega) only [n_z1, n_z2, n_z3, n_z4, n_z5, n_z6, n_z7, n_z8, n_leL, n_leR, n_ltL, n_ltR, n_eqL, n_eqR, n_m1R, n_addL, n_addR, n_mulL, n_mulR, n_subR, n_subL, n_add, n_mul, n_neg, n_sub, n_le, n_lt, n_eq, nI_clamp, if_true, if_false, if_pos, if_neg, or_false, false_or, not_false_eq_true, not_true_eq_false]; omega), if_pos (show s' ≤ nI p by rw [hs']; simp (disch := omega) only [n_z1, n_z2, n_z3, n_z4, n_z5, n_z6, n_z7, n_z8, n_leL, n_leR, n_ltL, n_ltR, n_eqL, n_eqR, n_m1R, n_addL, n_addR, n_mulL, n_mulR, n_subR, n_subL, n_add, n_mul, n_neg, n_sub, n_le, n_lt, n_eq, nI_clamp, if_true, if_false, if_pos, if_neg, or_false, false_or, not_false_eq_true, not_true_eq_false]; omega)]
      have hp : p = n := by omega
      subst hp
      unfold g_X6_advance_44 g_X11_next_38 g_X11_next_75 g_X11_next_128 g_X11_next_157 g_X7_size
      rw [pb_some, if_neg (show ¬ nI p < s by rw [hs]; simp (disch := omega) only [n_z1, n_z2, n_z3, n_z4, n_z5, n_z6, n_z7, n_z8, n_leL, n_leR, n_ltL, n_ltR, n_eqL, n_eqR, n_m1R, n_addL, n_addR, n_mulL, n_mulR, n_subR, n_subL, n_add, n_mul, n_neg, n_sub, n_le, n_lt, n_eq, nI_clamp, if_true, if_false, if_pos, if_neg, or_false, false_or, not_false_eq_true, not_true_eq_false]; omega), if_pos (show s' ≤ nI p by rw [hs']; simp (disch := omega) only [n_z1, n_z2, n_z3, n_z4, n_z5, n_z6, n_z7, n_z8, n_leL, n_leR, n_ltL, n_ltR, n_eqL, n_eqR, n_m1R, n_addL, n_addR, n_mulL, n_mulR, n_subR, n_subL, n_add, n_mul, n_neg, n_sub, n_le, n_lt, n_eq, nI_clamp, if_true, if_false, if_pos, if_neg, or_false, false_or, not_false_eq_true, not_true_eq_false]; omega), if_neg (show ¬ (0 : Int32) ≤ -1 by decide), if_neg (show ¬ (0 : Int32) = 3 by decide), if_neg (show ¬ (0 : Int32) = 4 by decide), m_idle 0 (by decide) (by decide)]
      exact ⟨p, _, _, _, _, _, _, Nat.le_refl p, rfl, rfl, rfl, rfl, Nat.le_refl p, Or.inl ⟨rfl, rfl⟩⟩
    · have hp : p < n := by omega
      have hcp := hc p hp
      rw [if_neg (show ¬ s ≤ nI p by rw [hs]; simp (disch := omega) only [n_z1, n_z2, n_z3, n_z4, n_z5, n_z6, n_z7, n_z8, n_leL, n_leR, n_ltL, n_ltR, n_eqL, n_eqR, n_m1R, n_addL, n_addR, n_mulL, n_mulR, n_subR, n_subL, n_add, n_mul, n_neg, n_sub, n_le, n_lt, n_eq, nI_clamp, if_true, if_false, if_pos, if_neg, or_false, false_or, not_false_eq_true, not_true_eq_false]; omega), if_neg (show ¬ s' ≤ nI p by rw [hs']; simp (disch := omega) only [n_z1, n_z2, n_z3, n_z4, n_z5, n_z6, n_z7, n_z8, n_leL, n_leR, n_ltL, n_ltR, n_eqL, n_eqR, n_m1R, n_addL, n_addR, n_mulL, n_mulR, n_subR, n_subL, n_add, n_mul, n_neg, n_sub, n_le, n_lt, n_eq, nI_clamp, if_true, if_false, if_pos, if_neg, or_false, false_or, not_false_eq_true, not_true_eq_false]; omega), t_at hs hn hf hp, pb_some]
      rw [if_neg (show ¬ (nI p < 0 ∨ 250 ≤ (nI p).toNatClampNeg) by simp (disch := omega) only [n_z1, n_z2, n_z3, n_z4, n_z5, n_z6, n_z7, n_z8, n_leL, n_leR, n_ltL, n_ltR, n_eqL, n_eqR, n_m1R, n_addL, n_addR, n_mulL, n_mulR, n_subR, n_subL, n_add, n_mul, n_neg, n_sub, n_le, n_lt, n_eq, nI_clamp, if_true, if_false, if_pos, if_neg, or_false, false_or, not_false_eq_true, not_true_eq_false]; omega), nI_clamp (by omega), hg p hp]
      by_cases e1 : c p = 32
      · rw [if_pos e1, if_pos e1, n_addR]
        obtain ⟨b, pl', tk', nu', at', kd', va', q1, q2, q3, q4⟩ := tok hs hs' hn hf hg hc tk fi nu be kd va (k - 1) z (p + 1) (by omega) (by omega) (by omega)
        exact ⟨b, pl', tk', nu', at', kd', va', by omega, q2, q3, q4⟩
      · rw [if_neg e1, if_neg e1]
        have h0 : (0 : Int32) ≤ c p := by rw [Int32.le_iff_toInt_le]; exact hcp.1
        unfold g_X6_advance_44 g_X11_next_38 g_X11_next_75 g_X7_size
        rw [pb_some, if_pos (show nI p < s by rw [hs]; simp (disch := omega) only [n_z1, n_z2, n_z3, n_z4, n_z5, n_z6, n_z7, n_z8, n_leL, n_leR, n_ltL, n_ltR, n_eqL, n_eqR, n_m1R, n_addL, n_addR, n_mulL, n_mulR, n_subR, n_subL, n_add, n_mul, n_neg, n_sub, n_le, n_lt, n_eq, nI_clamp, if_true, if_false, if_pos, if_neg, or_false, false_or, not_false_eq_true, not_true_eq_false]; omega), t_at hs hn hf hp, pb_some, if_neg (show ¬ s' ≤ nI p by rw [hs']; simp (disch := omega) only [n_z1, n_z2, n_z3, n_z4, n_z5, n_z6, n_z7, n_z8, n_leL, n_leR, n_ltL, n_ltR, n_eqL, n_eqR, n_m1R, n_addL, n_addR, n_mulL, n_mulR, n_subR, n_subL, n_add, n_mul, n_neg, n_sub, n_le, n_lt, n_eq, nI_clamp, if_true, if_false, if_pos, if_neg, or_false, false_or, not_false_eq_true, not_true_eq_false]; omega), if_neg (show ¬ (nI p < 0 ∨ 250 ≤ (nI p).toNatClampNeg) by simp (disch := omega) only [n_z1, n_z2, n_z3, n_z4, n_z5, n_z6, n_z7, n_z8, n_leL, n_leR, n_ltL, n_ltR, n_eqL, n_eqR, n_m1R, n_addL, n_addR, n_mulL, n_mulR, n_subR, n_subL, n_add, n_mul, n_neg, n_sub, n_le, n_lt, n_eq, nI_clamp, if_true, if_false, if_pos, if_neg, or_false, false_or, not_false_eq_true, not_true_eq_false]; omega), nI_clamp (by omega), hg p hp, if_pos h0]
        obtain ⟨v, v1, hv⟩ := x_let (c p)
        obtain ⟨u, u1, hu⟩ := m_let (c p)
        rw [v1, u1, pb_some, pb_some]
        by_cases e2 : isLe (c p)
        · have hv1 : ¬ v = 0 := by rcases hv with ⟨_, q⟩ | ⟨q, _⟩; exact absurd e2 q; rw [q]; decide
          have hu1 : ¬ u = 0 := by rcases hu with ⟨_, q⟩ | ⟨q, _⟩; exact absurd e2 q; rw [q]; decide
          rw [if_neg hv1, if_neg hu1]
          obtain ⟨l, l1, l2, l3, l4, l5⟩ := x_pw hs hn hf p tk (n - p) zF 0 (by omega) (by show _ < 65536; omega) (by omega) (fun i hi => by omega)
          have hl0 : 0 < l := by
            rcases Nat.eq_zero_or_pos l with q | q
            · exact absurd e2 (by have := l4 (by omega); rw [q] at this; exact this)
            · exact q
          have l5' : g_X6_passWord 250 1 s f (nI p) tk = some (nI (p + l), 1) := l5
          have m5 := m_pw hs' hn hg p l l2 l3 l4 l zF 0 rfl (by show _ < 65536; omega) (by omega)
          have m5' : g_X11_next_161 s' g zF (nI p) (nI p) 1 0 = some (nI (p + l), nI p, 1, wl c p l) := m5
          unfold g_X11_next_128 g_X11_next_157
          rw [l5', pb_some, if_neg (show ¬ (1 : Int32) = 3 by decide), if_neg (show ¬ (1 : Int32) = 4 by decide), show nI p + 0 = nI p from n_z8, m5']
          exact ⟨p, _, _, _, _, _, _, Nat.le_refl p, rfl, rfl, rfl, rfl, by omega, Or.inr (Or.inl ⟨hp, rfl, rfl, l, hl0, l2, rfl, rfl, l3, rfl⟩)⟩
        · have hv0 : v = 0 := by rcases hv with ⟨q, _⟩ | ⟨_, q⟩; exact q; exact absurd q e2
          have hu0 : u = 0 := by rcases hu with ⟨q, _⟩ | ⟨_, q⟩; exact q; exact absurd q e2
          rw [if_pos hv0, if_pos hu0]
          obtain ⟨v, v1, hv⟩ := x_fig (c p)
          obtain ⟨u, u1, hu⟩ := m_fig (c p)
          rw [v1, u1, pb_some, pb_some]
          by_cases e3 : isFi (c p)
          · have hv1 : ¬ v = 0 := by rcases hv with ⟨_, q⟩ | ⟨q, _⟩; exact absurd e3 q; rw [q]; decide
            have hu1 : ¬ u = 0 := by rcases hu with ⟨_, q⟩ | ⟨q, _⟩; exact absurd e3 q; rw [q]; decide
            rw [if_neg hv1, if_neg hu1]
            obtain ⟨l, nu', l1, l2, l3, l4, l5, l6⟩ := x_pf hs hn hf p tk (n - p) zF 0 0 (by omega) (by show _ < 65536; omega) (by omega) (fun i hi => by omega) (fun _ => rfl)
            have hl0 : 0 < l := by
              rcases Nat.eq_zero_or_pos l with q | q
              · exact absurd e3 (by have := l4 (by omega); rw [q] at this; exact this)
              · exact q
            have l5' : g_X6_passFigures 250 (nI p) 1 s f (nI p) tk nu = some (nI (p + l), if l ≤ 3 then 2 else 5, nu') := l5
            have m5 := m_pfg hs' hn hg p l l2 l3 l4 l zF 0 0 rfl (by show _ < 65536; omega) (by omega) (by rw [if_pos (by omega)]; rfl)
            have m5' : g_X11_next_161 s' g zF (nI p) (nI p) 2 0 = some (nI (p + l), nI p, 2, if l ≤ 3 then nL (fv c p l) else nL 100000) := by
              rw [show zF = 65535 + 1 from rfl, g_X11_next_161]
              unfold g_X11_next_161b
              rw [if_neg (show ¬ (2 : Int32) = 1 by decide)]
              exact m5
            unfold g_X11_next_128 g_X11_next_157
            rw [l5', pb_some, if_neg (show ¬ (2 : Int32) = 3 by decide), if_neg (show ¬ (2 : Int32) = 4 by decide), show nI p + 0 = nI p from n_z8, m5']
            by_cases e4 : l ≤ 3
            · rw [if_pos e4, if_pos e4]
              have hlt := fv_lt c p l l3
              have hp3 : 10 ^ l ≤ 10 ^ 3 := Nat.pow_le_pow_right (by omega) e4
              exact ⟨p, _, _, _, _, _, _, Nat.le_refl p, rfl, rfl, rfl, rfl, by omega, Or.inr (Or.inr (Or.inl ⟨hp, rfl, rfl, l, fv c p l, hl0, l2, rfl, rfl, l6 e4, rfl, by omega⟩))⟩
            · rw [if_neg e4, if_neg e4]
              exact ⟨p, _, _, _, _, _, _, Nat.le_refl p, rfl, rfl, rfl, rfl, by omega, Or.inr (Or.inr (Or.inr (Or.inl ⟨hp, rfl, rfl, rfl⟩)))⟩
          · have hv0 : v = 0 := by rcases hv with ⟨q, _⟩ | ⟨_, q⟩; exact q; exact absurd q e3
            have hu0 : u = 0 := by rcases hu with ⟨q, _⟩ | ⟨_, q⟩; exact q; exact absurd q e3
            rw [if_pos hv0, if_pos hu0]
            unfold g_X6_advance_135 g_X11_next_128 g_X11_next_152 g_X11_next_157
            by_cases e4 : c p = 45
            · rw [if_pos e4, if_pos e4, if_pos rfl, n_addR, m_idle 3 (by decide) (by decide)]
              exact ⟨p, _, _, _, _, _, _, Nat.le_refl p, rfl, rfl, rfl, rfl, by omega, Or.inr (Or.inr (Or.inr (Or.inr (Or.inl ⟨hp, rfl, rfl, rfl, rfl⟩))))⟩
            · rw [if_neg e4, if_neg e4]
              by_cases e5 : c p = 59
              · rw [if_pos e5, if_pos e5, if_neg (show ¬ (4 : Int32) = 3 by decide), if_pos (show (4 : Int32) = 4 from rfl), n_addR, m_idle 4 (by decide) (by decide)]
                exact ⟨p, _, _, _, _, _, _, Nat.le_refl p, rfl, rfl, rfl, rfl, by omega, Or.inr (Or.inr (Or.inr (Or.inr (Or.inr (Or.inl ⟨hp, rfl, rfl, rfl, rfl⟩)))))⟩
              · rw [if_neg e5, if_neg e5, if_neg (show ¬ (5 : Int32) = 3 by decide), if_neg (show ¬ (5 : Int32) = 4 by decide), m_idle 5 (by decide) (by decide)]
                exact ⟨p, _, _, _, _, _, _, Nat.le_refl p, rfl, rfl, rfl, rfl, by omega, Or.inr (Or.inr (Or.inr (Or.inr (Or.inr (Or.inr ⟨hp, rfl, rfl⟩)))))⟩
end
/-- the seven words -/
def wn (k : Nat) : Nat := ([4, 5, 3, 6, 4, 3, 5] : List Nat).getD k 0
def wc (k i : Nat) : Nat := (([[102, 97, 115, 116], [115, 111, 110, 103, 115], [98, 101, 100], [112, 101, 114, 115, 111, 110], [116, 97, 108, 107], [100, 117, 101], [115, 105, 103, 104, 116]] : List (List Nat)).getD k []).getD i 97
def wh (k : Nat) : Nat := ([198260, 20429043, 2212, 542723566, 656779, 4773, 20225300] : List Nat).getD k 0
theorem w_len {k : Nat} (hk : k < 7) : g_J0_length_8abf5 k = some (nI (wn k)) := by
  have h : ∀ k : Fin 7, g_J0_length_8abf5 k.val = some (nI (wn k.val)) := by decide +kernel
  exact h ⟨k, hk⟩
theorem w_chr {k i : Nat} (hk : k < 7) (hi : i < wn k) : g_J0_charAt_5068e k (nI i) = some (nI (wc k i)) := by
  have h : ∀ k : Fin 7, ∀ i : Fin 6, i.val < wn k.val → g_J0_charAt_5068e k.val (nI i.val) = some (nI (wc k.val i.val)) := by decide +kernel
  have hn : wn k ≤ 6 := by
    have : ∀ k : Fin 7, wn k.val ≤ 6 := by decide
    exact this ⟨k, hk⟩
  exact h ⟨k, hk⟩ ⟨i, by omega⟩ hi
