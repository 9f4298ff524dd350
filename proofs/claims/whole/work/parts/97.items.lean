/-! THE TEXT OF A VALLEY: words at hand -/
theorem wv_inj {c c' : Nat → Int32} {b b' : Nat} : ∀ l l', (∀ i, i < l → isLe (c (b + i))) → (∀ i, i < l' → isLe (c' (b' + i))) → wv c b l = wv c' b' l' → l = l' ∧ ∀ i, i < l → c (b + i) = c' (b' + i)
  | 0, 0, _, _, _ => ⟨rfl, fun i hi => absurd hi (Nat.not_lt_zero _)⟩
  | 0, l' + 1, _, h', e => by
    obtain ⟨h2, h3⟩ := h' l' (by omega)
    rw [wv, wv] at e
    unfold tn at e
    omega
  | l + 1, 0, h, _, e => by
    obtain ⟨h2, h3⟩ := h l (by omega)
    rw [wv, wv] at e
    unfold tn at e
    omega
  | l + 1, l' + 1, h, h', e => by
    obtain ⟨h2, h3⟩ := h l (by omega)
    obtain ⟨k2, k3⟩ := h' l' (by omega)
    rw [wv, wv] at e
    have t1 : 97 ≤ tn (c (b + l)) ∧ tn (c (b + l)) ≤ 122 := by unfold tn; omega
    have t2 : 97 ≤ tn (c' (b' + l')) ∧ tn (c' (b' + l')) ≤ 122 := by unfold tn; omega
    obtain ⟨r1, r2⟩ := wv_inj l l' (fun i hi => h i (by omega)) (fun i hi => h' i (by omega)) (by omega)
    have r3 : tn (c (b + l)) = tn (c' (b' + l')) := by omega
    refine ⟨by omega, fun i hi => ?_⟩
    by_cases q : i = l
    · rw [q]
      have : c (b + l) = c' (b' + l') := by rw [tn_nI (show 0 ≤ (c (b + l)).toInt by omega), tn_nI (show 0 ≤ (c' (b' + l')).toInt by omega), r3]
      rw [this, r1]
    · exact r2 i (by omega)
def wf (k i : Nat) : Int32 := nI (wc k i)
theorem w_fin {k : Nat} (hk : k < 7) : wn k ≤ 6 ∧ 0 < wn k ∧ wh k < 2 ^ 31 ∧ wv (wf k) 0 (wn k) = wh k := by
  have : ∀ k : Fin 7, wn k.val ≤ 6 ∧ 0 < wn k.val ∧ wh k.val < 2 ^ 31 ∧ wv (wf k.val) 0 (wn k.val) = wh k.val := by decide +kernel
  exact this ⟨k, hk⟩
theorem w_le {k i : Nat} (hk : k < 7) (hi : i < wn k) : isLe (wf k (0 + i)) := by
  have h : ∀ k : Fin 7, ∀ i : Fin 6, i.val < wn k.val → 97 ≤ wc k.val i.val ∧ wc k.val i.val ≤ 122 := by decide
  have : 97 ≤ wc k i ∧ wc k i ≤ 122 := h ⟨k, hk⟩ ⟨i, by have := (w_fin hk).1; omega⟩ hi
  rw [Nat.zero_add]
  unfold wf isLe
  rw [nI_toInt (by omega)]
  omega
/-- a word is one of the seven just if it is worth as much -/
theorem w_iff {c : Nat → Int32} {b l k : Nat} (hk : k < 7) (hl : ∀ i, i < l → isLe (c (b + i))) : wl c b l = nL (wh k) ↔ l = wn k ∧ ∀ i, i < l → c (b + i) = wf k i := by
  obtain ⟨w1, w2, w3, w4⟩ := w_fin hk
  unfold wl
  by_cases e : l ≤ 7
  · rw [if_pos e]
    have hlt := wv_lt c b l hl
    have hp : 32 ^ l ≤ 32 ^ 7 := Nat.pow_le_pow_right (by omega) e
    rw [nL_eq (by omega) (by omega), ← w4]
    constructor
    · intro h
      obtain ⟨r1, r2⟩ := wv_inj l (wn k) hl (fun i hi => w_le hk hi) h
      exact ⟨r1, fun i hi => by rw [r2 i hi, Nat.zero_add]⟩
    · rintro ⟨r1, r2⟩
      subst r1
      have : ∀ m, m ≤ wn k → wv c b m = wv (wf k) 0 m := by
        intro m
        induction m with
        | zero => intro _; rfl
        | succ m ih => intro hm; rw [wv, wv, ih (by omega), r2 m (by omega), Nat.zero_add]
      exact this _ (Nat.le_refl _)
  · rw [if_neg e]
    constructor
    · intro h
      have := congrArg Int64.toInt h
      rw [nL_toInt (by omega)] at this
      have h1 : (-1 : Int64).toInt = -1 := rfl
      omega
    · rintro ⟨r1, _⟩; omega
section
variable {c f : Nat → Int32} {n : Nat} {s : Int32}
theorem x_hand (hs : s = nI n) (hn : n ≤ 250) (hf : ∀ j, j < n → f j = c j) {b l k : Nat} (hk : k < 7) (hl : ∀ i, i < l → isLe (c (b + i))) (hb : b + l ≤ n) : g_X6_isAtHand 250 (nI (b + l)) (nI b) 1 s f k = some (if wl c b l = nL (wh k) then 1 else 0) := by
  obtain ⟨w1, w2, w3, w4⟩ := w_fin hk
  have key := w_iff hk hl
  unfold g_X6_isAtHand
  rw [if_pos hk, w_len hk, pb_some]
  have e0 : nI (b + l) - nI b = nI l := by rw [n_sub (by omega)]; congr 1; omega
  rw [e0]
  by_cases e : wn k = l
  · rw [if_pos (by rw [e])]
    subst e
    have loop : ∀ (j z i : Nat), wn k - i = j → j < z → i ≤ wn k → (∀ q, q < i → c (b + q) = wf k q) → g_X6_isAtHand_20 250 (nI (b + wn k)) (nI b) 1 s f k z (nI i) = some (if wl c b (wn k) = nL (wh k) then 1 else 0) := by
      intro j
      induction j with
      | zero =>
        intro z i h1 h2 h3 h4
        obtain ⟨z, rfl⟩ : ∃ y, z = y + 1 := ⟨z - 1, by omega⟩
        rw [g_X6_isAtHand_20]
        unfold g_X6_isAtHand_20b
        rw [if_pos hk, w_len hk, pb_some, if_pos (show nI (wn k) ≤ nI i by simp (disch := omega) only [n_z1, n_z2, n_z3, n_z4, n_z5, n_z6, n_z7, n_z8, n_leL, n_leR, n_ltL, n_ltR, n_eqL, n_eqR, n_m1R, n_addL, n_addR, n_mulL, n_mulR, n_subR, n_subL, n_add, n_mul, n_neg, n_sub, n_le, n_lt, n_eq, nI_clamp, if_true, if_false, if_pos, if_neg, or_false, false_or, not_false_eq_true, not_true_eq_false]; omega), if_pos (key.2 ⟨rfl, fun q hq => h4 q (by omega)⟩)]
      | succ j ih =>
        intro z i h1 h2 h3 h4
        obtain ⟨z, rfl⟩ : ∃ y, z = y + 1 := ⟨z - 1, by omega⟩
        rw [g_X6_isAtHand_20]
        unfold g_X6_isAtHand_20b
        rw [if_pos hk, w_len hk, pb_some, if_neg (show ¬ nI (wn k) ≤ nI i by simp (disch := omega) only [n_z1, n_z2, n_z3, n_z4, n_z5, n_z6, n_z7, n_z8, n_leL, n_leR, n_ltL, n_ltR, n_eqL, n_eqR, n_m1R, n_addL, n_addR, n_mulL, n_mulR, n_subR, n_subL, n_add, n_mul, n_neg, n_sub, n_le, n_lt, n_eq, nI_clamp, if_true, if_false, if_pos, if_neg, or_false, false_or, not_false_eq_true, not_true_eq_false]; omega), n_add, t_at hs hn hf (show b + i < n by omega), pb_some, if_pos hk, w_chr hk (show i < wn k by omega), pb_some]
        by_cases c1 : c (b + i) = nI (wc k i)
        · rw [if_pos c1, n_addR]
          refine ih z (i + 1) (by omega) (by omega) (by omega) (fun q hq => ?_)
          by_cases c2 : q = i
          · rw [c2]; exact c1
          · exact h4 q (by omega)
        · rw [if_neg c1, if_neg (fun h => c1 ((key.1 h).2 i (by omega)))]
    exact loop (wn k) zF 0 rfl (by show _ < 65536; omega) (by omega) (fun q hq => by omega)
  · rw [if_neg (show ¬ nI (wn k) = nI l by simp (disch := omega) only [n_z1, n_z2, n_z3, n_z4, n_z5, n_z6, n_z7, n_z8, n_leL, n_leR, n_ltL, n_ltR, n_eqL, n_eqR, n_m1R, n_addL, n_addR, n_mulL, n_mulR, n_subR, n_subL, n_add, n_mul, n_neg, n_sub, n_le, n_lt, n_eq, nI_clamp, if_true, if_false, if_pos, if_neg, or_false, false_or, not_false_eq_true, not_true_eq_false]; exact e), if_neg (fun h => e ((key.1 h).1).symm)]
def itk (va : Int64) : Nat → Nat → Int32
  | _, 0 => -1
  | j, r + 1 => if va = nL (wh j) then nI j else itk va (j + 1) r
theorem w_of {k : Nat} (hk : k < 7) : g_X6_wordOf (nI k) = some k := by
  have : ∀ k : Fin 7, g_X6_wordOf (nI k.val) = some k.val := by decide
  exact this ⟨k, hk⟩
theorem x_itk (hs : s = nI n) (hn : n ≤ 250) (hf : ∀ j, j < n → f j = c j) {b l : Nat} (hl : ∀ i, i < l → isLe (c (b + i))) (hb : b + l ≤ n) : ∀ (r z j : Nat), 7 - j = r → r < z → j ≤ 7 → g_X6_itemAtHand_2 250 (nI (b + l)) (nI b) 1 s f z (nI j) = some (itk (wl c b l) j r)
  | _, 0, _, _, h, _ => absurd h (Nat.not_lt_zero _)
  | r, z + 1, j, h1, h2, h3 => by
    rw [g_X6_itemAtHand_2]
    unfold g_X6_itemAtHand_2b
    by_cases e : 7 ≤ j
    · rw [if_pos (show 7 ≤ nI j by simp (disch := omega) only [n_z1, n_z2, n_z3, n_z4, n_z5, n_z6, n_z7, n_z8, n_leL, n_leR, n_ltL, n_ltR, n_eqL, n_eqR, n_m1R, n_addL, n_addR, n_mulL, n_mulR, n_subR, n_subL, n_add, n_mul, n_neg, n_sub, n_le, n_lt, n_eq, nI_clamp, if_true, if_false, if_pos, if_neg, or_false, false_or, not_false_eq_true, not_true_eq_false]; omega), show r = 0 by omega, itk]
    · obtain ⟨r, rfl⟩ : ∃ q, r = q + 1 := ⟨r - 1, by omega⟩
      rw [if_neg (show ¬ 7 ≤ nI j by simp (disch := omega) only [n_z1, n_z2, n_z3, n_z4, n_z5, n_z6, n_z7, n_z8, n_leL, n_leR, n_ltL, n_ltR, n_eqL, n_eqR, n_m1R, n_addL, n_addR, n_mulL, n_mulR, n_subR, n_subL, n_add, n_mul, n_neg, n_sub, n_le, n_lt, n_eq, nI_clamp, if_true, if_false, if_pos, if_neg, or_false, false_or, not_false_eq_true, not_true_eq_false]; omega), w_of (by omega), pb_some, x_hand hs hn hf (by omega) hl hb, pb_some, itk]
      by_cases c1 : wl c b l = nL (wh j)
      · rw [if_pos c1, if_pos c1, if_neg (show ¬ (1 : Int32) = 0 by decide)]
      · rw [if_neg c1, if_neg c1, if_pos rfl, n_addR]
        exact x_itk hs hn hf hl hb r z (j + 1) (by omega) (by omega) (by omega)
theorem x_item (hs : s = nI n) (hn : n ≤ 250) (hf : ∀ j, j < n → f j = c j) {b l : Nat} (hl : ∀ i, i < l → isLe (c (b + i))) (hb : b + l ≤ n) : g_X6_itemAtHand 250 (nI (b + l)) (nI b) 1 s f = some (itk (wl c b l) 0 7) :=
  x_itk hs hn hf hl hb 7 zF 0 rfl (by decide) (by omega)
theorem itk_cases (va : Int64) : (∃ k, k < 7 ∧ va = nL (wh k) ∧ itk va 0 7 = nI k) ∨ ((∀ k, k < 7 → va ≠ nL (wh k)) ∧ itk va 0 7 = -1) := by
  have h : ∀ r j, (∃ k, j ≤ k ∧ k < j + r ∧ va = nL (wh k) ∧ itk va j r = nI k) ∨ ((∀ k, j ≤ k → k < j + r → va ≠ nL (wh k)) ∧ itk va j r = -1) := by
    intro r
    induction r with
    | zero => intro j; exact Or.inr ⟨fun k a b => by omega, rfl⟩
    | succ r ih =>
      intro j
      rw [itk]
      by_cases c1 : va = nL (wh j)
      · rw [if_pos c1]; exact Or.inl ⟨j, Nat.le_refl j, by omega, c1, rfl⟩
      · rw [if_neg c1]
        rcases ih (j + 1) with ⟨k, a, b, c, d⟩ | ⟨a, b⟩
        · exact Or.inl ⟨k, by omega, by omega, c, d⟩
        · refine Or.inr ⟨fun k x y => ?_, b⟩
          by_cases c2 : k = j
          · rw [c2]; exact c1
          · exact a k (by omega) (by omega)
  rcases h 7 0 with ⟨k, a, b, c, d⟩ | ⟨a, b⟩
  · exact Or.inl ⟨k, by omega, c, d⟩
  · exact Or.inr ⟨fun k x => a k (by omega) (by omega), b⟩
end
/-! THE TEXT OF A VALLEY: the items' steps -/
abbrev RT15 := Int32 × Int32 × Int32 × Int32 × Int32 × (Nat → Int32) × Int32 × (Nat → Int32) × Int32 × (Nat → Int32) × Int32 × (Nat → Int32) × Int32 × (Nat → Int32) × (Nat → Int32)
abbrev RM6 := Int32 × Int32 × Int32 × Int32 × Int64 × (Nat → Int32)
abbrev K49 := Int32 → Int32 → Int32 → Int32 → Int32 → Int32 → (Nat → Int32) → Int32 → (Nat → Int32) → Int32 → (Nat → Int32) → Int32 → (Nat → Int32) → Int32 → (Nat → Int32) → (Nat → Int32) → Option RT15
def mrg (r w : Nat → Int32) : Nat → Int32 := fun j => if j < 115 then r j else w j
theorem mrg_upd (r w : Nat → Int32) (k : Nat) (x : Int32) (h : k < 115) : mrg (upd r k x) w = upd (mrg r w) k x := by
  funext j
  unfold mrg
  rw [upd_eq, upd_eq]
  by_cases e : j = k
  · rw [if_pos e, if_pos e, if_pos (by omega)]
  · rw [if_neg e, if_neg e]
theorem mrg_lt (r w : Nat → Int32) {k : Nat} (h : k < 115) : mrg r w k = r k := by
  unfold mrg
  rw [if_pos h]
/-- the text, held alike by both -/
def TXD (c f g : Nat → Int32) (n : Nat) (s s' : Int32) : Prop := s = nI n ∧ s' = nI n ∧ n ≤ 250 ∧ (∀ j, j < n → f j = c j) ∧ (∀ j, j < n → g j = c j) ∧ (∀ j, j < n → 0 ≤ (c j).toInt ∧ (c j).toInt ≤ 255)
section
variable {c f g : Nat → Int32} {n : Nat} {s s' : Int32}
theorem tokA (h : TXD c f g n s s') (p : Nat) (hp : p ≤ n) (tk fi nu be kd : Int32) (va : Int64) :
    ∃ b pl' tk' nu' at' kd' va', p ≤ b ∧ g_X6_advance 250 1 s f (nI p) tk fi nu = some (pl', tk', nI b, nu') ∧ g_X11_next s' g (nI p) be kd va = some (at', nI b, kd', va') ∧ TR c n b pl' tk' (nI b) nu' at' (nI b) kd' va' := by
  obtain ⟨h1, h2, h3, h4, h5, h6⟩ := h
  exact tok h1 h2 h3 h4 h5 h6 tk fi nu be kd va (n - p) zF p rfl (by show _ < 65536; omega) hp
theorem num {b : Nat} {pl tk fi nu at_ be kd : Int32} {va : Int64} (h : TR c n b pl tk fi nu at_ be kd va) (lo hE : Nat) (hh : hE ≤ 1000) :
    (∃ v l, 0 < l ∧ b + l ≤ n ∧ lo ≤ v ∧ v < hE ∧ tk = 2 ∧ kd = 2 ∧ nu = nI v ∧ va = nL v ∧ pl = nI (b + l) ∧ at_ = nI (b + l)) ∨
    ((tk ≠ 2 ∨ ∃ v, v ≤ 999 ∧ nu = nI v ∧ ¬ (lo ≤ v ∧ v < hE)) ∧ (kd ≠ 2 ∨ ∃ v, v ≤ 100000 ∧ va = nL v ∧ ¬ (lo ≤ v ∧ v < hE))) := by
  obtain ⟨_, _, _, h⟩ := h
  rcases h with ⟨h1, h2⟩ | ⟨_, h1, h2, _⟩ | ⟨_, h1, h2, l, v, h3, h4, h5, h6, h7, h8, h9⟩ | ⟨_, h1, h2, h3⟩ | ⟨_, h1, h2, _⟩ | ⟨_, h1, h2, _⟩ | ⟨_, h1, h2⟩
  · exact Or.inr ⟨Or.inl (by rw [h1]; decide), Or.inl (by rw [h2]; decide)⟩
  · exact Or.inr ⟨Or.inl (by rw [h1]; decide), Or.inl (by rw [h2]; decide)⟩
  · by_cases c1 : lo ≤ v ∧ v < hE
    · exact Or.inl ⟨v, l, h3, h4, c1.1, c1.2, h1, h2, h7, h8, h5, h6⟩
    · exact Or.inr ⟨Or.inr ⟨v, h9, h7, c1⟩, Or.inr ⟨v, by omega, h8, c1⟩⟩
  · exact Or.inr ⟨Or.inl (by rw [h1]; decide), Or.inr ⟨100000, Nat.le_refl _, h3, by omega⟩⟩
  · exact Or.inr ⟨Or.inl (by rw [h1]; decide), Or.inl (by rw [h2]; decide)⟩
  · exact Or.inr ⟨Or.inl (by rw [h1]; decide), Or.inl (by rw [h2]; decide)⟩
  · exact Or.inr ⟨Or.inl (by rw [h1]; decide), Or.inl (by rw [h2]; decide)⟩
theorem stp {b : Nat} {pl tk fi nu at_ be kd : Int32} {va : Int64} (h : TR c n b pl tk fi nu at_ be kd va) : (b < n ∧ tk = 4 ∧ kd = 4 ∧ pl = nI (b + 1) ∧ at_ = nI (b + 1)) ∨ (tk ≠ 4 ∧ kd ≠ 4) := by
  obtain ⟨_, _, _, h⟩ := h
  rcases h with ⟨h1, h2⟩ | ⟨_, h1, h2, _⟩ | ⟨_, h1, h2, _⟩ | ⟨_, h1, h2, _⟩ | ⟨_, h1, h2, _⟩ | ⟨h0, h1, h2, h3, h4⟩ | ⟨_, h1, h2⟩
  · exact Or.inr ⟨by rw [h1]; decide, by rw [h2]; decide⟩
  · exact Or.inr ⟨by rw [h1]; decide, by rw [h2]; decide⟩
  · exact Or.inr ⟨by rw [h1]; decide, by rw [h2]; decide⟩
  · exact Or.inr ⟨by rw [h1]; decide, by rw [h2]; decide⟩
  · exact Or.inr ⟨by rw [h1]; decide, by rw [h2]; decide⟩
  · exact Or.inl ⟨h0, h1, h2, h3, h4⟩
  · exact Or.inr ⟨by rw [h1]; decide, by rw [h2]; decide⟩
theorem dsh {b : Nat} {pl tk fi nu at_ be kd : Int32} {va : Int64} (h : TR c n b pl tk fi nu at_ be kd va) : (b < n ∧ tk = 3 ∧ kd = 3 ∧ pl = nI (b + 1) ∧ at_ = nI (b + 1)) ∨ (tk ≠ 3 ∧ kd ≠ 3) := by
  obtain ⟨_, _, _, h⟩ := h
  rcases h with ⟨h1, h2⟩ | ⟨_, h1, h2, _⟩ | ⟨_, h1, h2, _⟩ | ⟨_, h1, h2, _⟩ | ⟨h0, h1, h2, h3, h4⟩ | ⟨_, h1, h2, _⟩ | ⟨_, h1, h2⟩
  · exact Or.inr ⟨by rw [h1]; decide, by rw [h2]; decide⟩
  · exact Or.inr ⟨by rw [h1]; decide, by rw [h2]; decide⟩
  · exact Or.inr ⟨by rw [h1]; decide, by rw [h2]; decide⟩
  · exact Or.inr ⟨by rw [h1]; decide, by rw [h2]; decide⟩
  · exact Or.inl ⟨h0, h1, h2, h3, h4⟩
  · exact Or.inr ⟨by rw [h1]; decide, by rw [h2]; decide⟩
  · exact Or.inr ⟨by rw [h1]; decide, by rw [h2]; decide⟩
theorem m_in (v : Nat) (hv : v < 2 ^ 31) (a b : Int32) (lo hE : Nat) (ha : a.toInt = lo) (hb : b.toInt = (hE : Int) - 1) : g_X11_in (nL v) a.toInt64 b.toInt64 = some (if lo ≤ v ∧ v < hE then 1 else 0) := by
  rw [← nL_n hv, p_in, Int32.toInt_toInt64, Int32.toInt_toInt64, nI_toInt hv, ha, hb]
  by_cases c1 : lo ≤ v ∧ v < hE
  · rw [if_pos c1, if_pos (by omega)]
  · rw [if_neg c1, if_neg (by omega)]
theorem m_tk1 {at0 be0 kd0 at_ be kd : Int32} {va0 va : Int64} (hx : g_X11_next s' g at0 be0 kd0 va0 = some (at_, be, kd, va)) (a b : Int32) (lo hE v : Nat) (ha : a.toInt = lo) (hb : b.toInt = (hE : Int) - 1) (hh : hE ≤ 1000) (h1 : kd = 2) (h2 : va = nL v) (h3 : lo ≤ v) (h4 : v < hE) : g_X11_takes s' g a b at0 be0 kd0 va0 = some (1, at_, be, kd, va) := by
  unfold g_X11_takes
  rw [hx, pb_some]
  dsimp only
  rw [if_pos h1, h2, m_in v (by omega) a b lo hE ha hb, pb_some, if_pos (show lo ≤ v ∧ v < hE from ⟨h3, h4⟩), if_neg (show ¬ (1 : Int32) = 0 by decide)]
theorem m_tk0 {at0 be0 kd0 at_ be kd : Int32} {va0 va : Int64} (hx : g_X11_next s' g at0 be0 kd0 va0 = some (at_, be, kd, va)) (a b : Int32) (lo hE : Nat) (ha : a.toInt = lo) (hb : b.toInt = (hE : Int) - 1) (h : kd ≠ 2 ∨ ∃ v, v ≤ 100000 ∧ va = nL v ∧ ¬ (lo ≤ v ∧ v < hE)) : g_X11_takes s' g a b at0 be0 kd0 va0 = some (0, at_, be, kd, va) := by
  unfold g_X11_takes
  rw [hx, pb_some]
  dsimp only
  by_cases c1 : kd = 2
  · rcases h with h | ⟨v, h1, h2, h3⟩
    · exact absurd c1 h
    · rw [if_pos c1, h2, m_in v (by omega) a b lo hE ha hb, pb_some, if_neg h3, if_pos rfl]
  · rw [if_neg c1]
theorem m_st {at0 be0 kd0 at_ be kd : Int32} {va0 va : Int64} (hx : g_X11_next s' g at0 be0 kd0 va0 = some (at_, be, kd, va)) : g_X11_stops s' g at0 be0 kd0 va0 = some (if kd = 4 then 1 else 0, at_, be, kd, va) := by
  unfold g_X11_stops
  rw [hx, pb_some]
  dsimp only
  by_cases c1 : kd = 4
  · rw [if_pos c1, if_pos c1]
  · rw [if_neg c1, if_neg c1]
end
section
variable {s : Int32} {f : Nat → Int32} {k49 : K49} {pl tk fi nu z1 z2 z3 z0 : Int32} {NU t1 t2 t3 t0 SE : Nat → Int32}
theorem x_106 {it i : Nat} (h7 : it < 7) (hi : i < 3) (t : Int32) {tv : Int32} (told : g_X9_isAsTold z0 (nI it) (nI i) t (if i = 0 then 0 else NU (i - 1)) = some tv) :
    g_X6_isItem_106 250 48 24 20 10 1 s f 3 16 3 8 2 10 2 5 k49 (nI it) (nI i) t pl tk fi nu NU z1 t1 z2 t2 z3 t3 z0 t0 SE =
      if tk = 2 then (if tv = 0 then some (0, pl, tk, fi, nu, NU, z1, t1, z2, t2, z3, t3, z0, t0, SE) else (g_X6_advance 250 1 s f pl tk fi nu).bind fun v => k49 (nI it) (nI (i + 1)) v.1 v.2.1 v.2.2.1 v.2.2.2 (upd NU i t) z1 t1 z2 t2 z3 t3 z0 t0 SE) else some (0, pl, tk, fi, nu, NU, z1, t1, z2, t2, z3, t3, z0, t0, SE) := by
  unfold g_X6_isItem_106 g_X6_isItem_140
  by_cases c1 : tk = 2
  · rw [if_pos c1, if_pos c1]
    have gi : ¬ (nI i < 0 ∨ 3 ≤ (nI i).toNatClampNeg) := by simp (disch := omega) only [n_z1, n_z2, n_z3, n_z4, n_z5, n_z6, n_z7, n_z8, n_leL, n_leR, n_ltL, n_ltR, n_eqL, n_eqR, n_m1R, n_addL, n_addR, n_mulL, n_mulR, n_subR, n_subL, n_add, n_mul, n_neg, n_sub, n_le, n_lt, n_eq, nI_clamp, if_true, if_false, if_pos, if_neg, or_false, false_or, not_false_eq_true, not_true_eq_false]; omega
    by_cases c2 : i = 0
    · rw [if_pos c2] at told
      rw [if_pos (show nI i ≤ 0 by simp (disch := omega) only [n_z1, n_z2, n_z3, n_z4, n_z5, n_z6, n_z7, n_z8, n_leL, n_leR, n_ltL, n_ltR, n_eqL, n_eqR, n_m1R, n_addL, n_addR, n_mulL, n_mulR, n_subR, n_subL, n_add, n_mul, n_neg, n_sub, n_le, n_lt, n_eq, nI_clamp, if_true, if_false, if_pos, if_neg, or_false, false_or, not_false_eq_true, not_true_eq_false]; omega), told, pb_some, if_neg gi, nI_clamp (by omega), n_addR]
    · rw [if_neg c2] at told
      rw [if_neg (show ¬ nI i ≤ 0 by simp (disch := omega) only [n_z1, n_z2, n_z3, n_z4, n_z5, n_z6, n_z7, n_z8, n_leL, n_leR, n_ltL, n_ltR, n_eqL, n_eqR, n_m1R, n_addL, n_addR, n_mulL, n_mulR, n_subR, n_subL, n_add, n_mul, n_neg, n_sub, n_le, n_lt, n_eq, nI_clamp, if_true, if_false, if_pos, if_neg, or_false, false_or, not_false_eq_true, not_true_eq_false]; omega), n_pred (by omega), if_neg (show ¬ (nI (i - 1) < 0 ∨ 3 ≤ (nI (i - 1)).toNatClampNeg) by simp (disch := omega) only [n_z1, n_z2, n_z3, n_z4, n_z5, n_z6, n_z7, n_z8, n_leL, n_leR, n_ltL, n_ltR, n_eqL, n_eqR, n_m1R, n_addL, n_addR, n_mulL, n_mulR, n_subR, n_subL, n_add, n_mul, n_neg, n_sub, n_le, n_lt, n_eq, nI_clamp, if_true, if_false, if_pos, if_neg, or_false, false_or, not_false_eq_true, not_true_eq_false]; omega), nI_clamp (by omega), told, pb_some, if_neg gi, nI_clamp (by omega), n_addR]
  · rw [if_neg c1, if_neg c1]
theorem x_num {it i : Nat} (h7 : it < 7) (hi : i < 3) (hw : ¬ zWID it ≤ nI i) (hd : ¬ (it = 5 ∧ i = 2)) {tv : Int32} (told : g_X9_isAsTold z0 (nI it) (nI i) nu (if i = 0 then 0 else NU (i - 1)) = some tv) :
    g_X6_isItem_49b 250 48 24 20 10 1 s f 3 16 3 8 2 10 2 5 k49 (nI it) (nI i) pl tk fi nu NU z1 t1 z2 t2 z3 t3 z0 t0 SE =
      if tk = 2 then (if tv = 0 then some (0, pl, tk, fi, nu, NU, z1, t1, z2, t2, z3, t3, z0, t0, SE) else (g_X6_advance 250 1 s f pl tk fi nu).bind fun v => k49 (nI it) (nI (i + 1)) v.1 v.2.1 v.2.2.1 v.2.2.2 (upd NU i nu) z1 t1 z2 t2 z3 t3 z0 t0 SE) else some (0, pl, tk, fi, nu, NU, z1, t1, z2, t2, z3, t3, z0, t0, SE) := by
  rw [← x_106 h7 hi nu told]
  unfold g_X6_isItem_49b g_X6_isItem_80 g_X6_isItem_81 g_X6_isItem_90
  rw [if_neg (show ¬ (nI it < 0 ∨ 7 ≤ (nI it).toNatClampNeg) by simp (disch := omega) only [n_z1, n_z2, n_z3, n_z4, n_z5, n_z6, n_z7, n_z8, n_leL, n_leR, n_ltL, n_ltR, n_eqL, n_eqR, n_m1R, n_addL, n_addR, n_mulL, n_mulR, n_subR, n_subL, n_add, n_mul, n_neg, n_sub, n_le, n_lt, n_eq, nI_clamp, if_true, if_false, if_pos, if_neg, or_false, false_or, not_false_eq_true, not_true_eq_false]; omega), nI_clamp (show it < 2 ^ 31 by omega), if_neg hw]
  by_cases c1 : it = 5
  · rw [if_pos (show nI it = 5 by rw [c1]; rfl), if_neg (show ¬ nI i = 2 by simp (disch := omega) only [n_z1, n_z2, n_z3, n_z4, n_z5, n_z6, n_z7, n_z8, n_leL, n_leR, n_ltL, n_ltR, n_eqL, n_eqR, n_m1R, n_addL, n_addR, n_mulL, n_mulR, n_subR, n_subL, n_add, n_mul, n_neg, n_sub, n_le, n_lt, n_eq, nI_clamp, if_true, if_false, if_pos, if_neg, or_false, false_or, not_false_eq_true, not_true_eq_false]; exact fun q => hd ⟨c1, q⟩), if_pos rfl, if_pos rfl]
  · rw [if_neg (show ¬ nI it = 5 by simp (disch := omega) only [n_z1, n_z2, n_z3, n_z4, n_z5, n_z6, n_z7, n_z8, n_leL, n_leR, n_ltL, n_ltR, n_eqL, n_eqR, n_m1R, n_addL, n_addR, n_mulL, n_mulR, n_subR, n_subL, n_add, n_mul, n_neg, n_sub, n_le, n_lt, n_eq, nI_clamp, if_true, if_false, if_pos, if_neg, or_false, false_or, not_false_eq_true, not_true_eq_false]; exact c1), if_pos rfl, if_pos rfl]
theorem x_dash (hk : tk = 3) : g_X6_isItem_49b 250 48 24 20 10 1 s f 3 16 3 8 2 10 2 5 k49 (nI 5) (nI 2) pl tk fi nu NU z1 t1 z2 t2 z3 t3 z0 t0 SE =
    (g_X6_advance 250 1 s f pl tk fi nu).bind fun v => g_X6_isItem_106 250 48 24 20 10 1 s f 3 16 3 8 2 10 2 5 k49 (nI 5) (nI 2) (-v.2.2.2) v.1 v.2.1 v.2.2.1 v.2.2.2 NU z1 t1 z2 t2 z3 t3 z0 t0 SE := by
  unfold g_X6_isItem_49b g_X6_isItem_80 g_X6_isItem_81 g_X6_isItem_90
  rw [if_neg (by decide), if_neg (by decide), if_pos (show nI 5 = 5 from rfl), if_pos (show nI 2 = 2 from rfl), if_pos hk, if_neg (show ¬ (1 : Int32) = 0 by decide)]
  rfl
theorem x_nodash (hk : tk ≠ 3) {tv : Int32} (told : g_X9_isAsTold z0 (nI 5) (nI 2) nu (NU 1) = some tv) : g_X6_isItem_49b 250 48 24 20 10 1 s f 3 16 3 8 2 10 2 5 k49 (nI 5) (nI 2) pl tk fi nu NU z1 t1 z2 t2 z3 t3 z0 t0 SE =
    if tk = 2 then (if tv = 0 then some (0, pl, tk, fi, nu, NU, z1, t1, z2, t2, z3, t3, z0, t0, SE) else (g_X6_advance 250 1 s f pl tk fi nu).bind fun v => k49 (nI 5) (nI (2 + 1)) v.1 v.2.1 v.2.2.1 v.2.2.2 (upd NU 2 nu) z1 t1 z2 t2 z3 t3 z0 t0 SE) else some (0, pl, tk, fi, nu, NU, z1, t1, z2, t2, z3, t3, z0, t0, SE) := by
  rw [← x_106 (it := 5) (i := 2) (by omega) (by omega) nu (by rw [if_neg (by omega)]; exact told)]
  unfold g_X6_isItem_49b g_X6_isItem_80 g_X6_isItem_81 g_X6_isItem_90
  rw [if_neg (by decide), if_neg (by decide), if_pos (show nI 5 = 5 from rfl), if_pos (show nI 2 = 2 from rfl), if_neg hk, if_pos rfl, if_pos rfl]
theorem x_end {it i : Nat} (h7 : it < 7) (hi : i < 4) (hw : zWID it ≤ nI i) : g_X6_isItem_49b 250 48 24 20 10 1 s f 3 16 3 8 2 10 2 5 k49 (nI it) (nI i) pl tk fi nu NU z1 t1 z2 t2 z3 t3 z0 t0 SE =
    if tk = 4 then ((g_X6_advance 250 1 s f pl tk fi nu).bind fun v4 => (g_X6_keep 48 24 20 10 NU 3 16 3 8 2 10 2 5 (nI it) z1 t1 z2 t2 z3 t3 z0 t0 SE).bind fun v6 => some (1, v4.1, v4.2.1, v4.2.2.1, v4.2.2.2, NU, v6.1, v6.2.1, v6.2.2.1, v6.2.2.2.1, v6.2.2.2.2.1, v6.2.2.2.2.2.1, v6.2.2.2.2.2.2.1, v6.2.2.2.2.2.2.2.1, v6.2.2.2.2.2.2.2.2)) else some (0, pl, tk, fi, nu, NU, z1, t1, z2, t2, z3, t3, z0, t0, SE) := by
  unfold g_X6_isItem_49b
  rw [if_neg (show ¬ (nI it < 0 ∨ 7 ≤ (nI it).toNatClampNeg) by simp (disch := omega) only [n_z1, n_z2, n_z3, n_z4, n_z5, n_z6, n_z7, n_z8, n_leL, n_leR, n_ltL, n_ltR, n_eqL, n_eqR, n_m1R, n_addL, n_addR, n_mulL, n_mulR, n_subR, n_subL, n_add, n_mul, n_neg, n_sub, n_le, n_lt, n_eq, nI_clamp, if_true, if_false, if_pos, if_neg, or_false, false_or, not_false_eq_true, not_true_eq_false]; omega), nI_clamp (show it < 2 ^ 31 by omega), if_pos hw]
end
/-! THE TEXT OF A VALLEY: the items -/
def IRes (f : Nat → Int32) (n : Nat) (s : Int32) (p : Nat) (s4 : Int32) (c4 SK w0 : Nat → Int32) (X : Option RT15) (M : Option RM6) : Prop :=
  (∃ b2 r m, b2 ≤ n ∧ X = some (0, r) ∧ r.2.2.1 = nI b2 ∧ M = some (0, m) ∧ m.2.1 = nI b2) ∨
  (∃ p' tk fi nu NU z1 t1 z2 t2 z3 t3 z0 t0 SE be kd va rd, p < p' ∧ p' ≤ n ∧ X = ((g_X6_advance 250 1 s f (nI p') tk fi nu).bind fun v => some (1, v.1, v.2.1, v.2.2.1, v.2.2.2, NU, z1, t1, z2, t2, z3, t3, z0, t0, SE)) ∧ M = some (1, nI p', be, kd, va, rd) ∧ RS z0 z1 z2 z3 s4 t0 t1 t2 t3 c4 SE SK (mrg rd w0))
theorem ite_iff {P Q : Prop} [Decidable P] [Decidable Q] (h : P ↔ Q) : (if P then (1 : Int32) else 0) = if Q then 1 else 0 := by
  by_cases c : P
  · rw [if_pos c, if_pos (h.mp c)]
  · rw [if_neg c, if_neg (fun q => c (h.mpr q))]
theorem ff {tk nu tv : Int32} {lo hE : Nat} (fx : tk ≠ 2 ∨ ∃ v, v ≤ 999 ∧ nu = nI v ∧ ¬ (lo ≤ v ∧ v < hE)) (htv : ∀ v, v ≤ 999 → nu = nI v → tv = if lo ≤ v ∧ v < hE then 1 else 0) {A B : Option RT15} : (if tk = 2 then (if tv = 0 then A else B) else A) = A := by
  by_cases c1 : tk = 2
  · rcases fx with h | ⟨v, h1, h2, h3⟩
    · exact absurd c1 h
    · rw [if_pos c1, htv v h1 h2, if_neg h3, if_pos rfl]
  · rw [if_neg c1]
theorem fo {tk nu tv : Int32} {lo hE v : Nat} (hh : hE ≤ 1000) (h1 : tk = 2) (h2 : nu = nI v) (h3 : lo ≤ v) (h4 : v < hE) (htv : ∀ v, v ≤ 999 → nu = nI v → tv = if lo ≤ v ∧ v < hE then 1 else 0) {A B : Option RT15} : (if tk = 2 then (if tv = 0 then A else B) else A) = B := by
  rw [if_pos h1, htv v (by omega) h2, if_pos (show lo ≤ v ∧ v < hE from ⟨h3, h4⟩), if_neg (show ¬ (1 : Int32) = 0 by decide)]
section
variable {s : Int32} {f : Nat → Int32} {pl tk fi nu z1 z2 z3 z0 : Int32} {NU t1 t2 t3 t0 SE : Nat → Int32}
theorem x_49 (z : Nat) (x1 x2 : Int32) : g_X6_isItem_49 250 48 24 20 10 1 s f 3 16 3 8 2 10 2 5 (z + 1) x1 x2 pl tk fi nu NU z1 t1 z2 t2 z3 t3 z0 t0 SE = g_X6_isItem_49b 250 48 24 20 10 1 s f 3 16 3 8 2 10 2 5 (g_X6_isItem_49 250 48 24 20 10 1 s f 3 16 3 8 2 10 2 5 z) x1 x2 pl tk fi nu NU z1 t1 z2 t2 z3 t3 z0 t0 SE := by rw [g_X6_isItem_49]
theorem x_43 (x1 : Int32) : g_X6_isItem_43 250 48 24 20 10 1 s f 3 16 3 8 2 10 2 5 x1 pl tk fi nu NU z1 t1 z2 t2 z3 t3 z0 t0 SE = (g_X6_advance 250 1 s f pl tk fi nu).bind fun v1 => g_X6_isItem_49 250 48 24 20 10 1 s f 3 16 3 8 2 10 2 5 (65532 + 1 + 1 + 1 + 1) x1 (nI 0) v1.1 v1.2.1 v1.2.2.1 v1.2.2.2 NU z1 t1 z2 t2 z3 t3 z0 t0 SE := rfl
end
section
variable {c f g : Nat → Int32} {n : Nat} {s s' : Int32} {s4 : Int32} {c4 SK w0 : Nat → Int32} {z1 z2 z3 z0 : Int32} {t1 t2 t3 t0 SE rd : Nat → Int32}
theorem it_stop (h : TXD c f g n s s') {p q : Nat} (hpq : p ≤ q) (hq : q ≤ n) {it i : Nat} (h7 : it < 7) (hi : i < 4) (hw : zWID it ≤ nI i) (tk fi nu be kd : Int32) (va : Int64) (NU : Nat → Int32) (z : Nat) {z1' z2' z3' z0' : Int32} {t1' t2' t3' t0' SE' rd' : Nat → Int32}
    (hk : g_X6_keep 48 24 20 10 NU 3 16 3 8 2 10 2 5 (nI it) z1 t1 z2 t2 z3 t3 z0 t0 SE = some (z1', t1', z2', t2', z3', t3', z0', t0', SE')) (hRS : RS z0' z1' z2' z3' s4 t0' t1' t2' t3' c4 SE' SK (mrg rd' w0)) :
    IRes f n s p s4 c4 SK w0 ((g_X6_advance 250 1 s f (nI q) tk fi nu).bind fun v => g_X6_isItem_49 250 48 24 20 10 1 s f 3 16 3 8 2 10 2 5 (z + 1) (nI it) (nI i) v.1 v.2.1 v.2.2.1 v.2.2.2 NU z1 t1 z2 t2 z3 t3 z0 t0 SE) ((g_X11_stops s' g (nI q) be kd va).bind fun v => if v.1 = 0 ∨ v.1 = 1 then some (v.1, v.2.1, v.2.2.1, v.2.2.2.1, v.2.2.2.2, rd') else none) := by
  obtain ⟨b2, pl2, tk2, nu2, at2, kd2, va2, q1, q2, q3, q4⟩ := tokA h q hq tk fi nu be kd va
  rw [q2, pb_some, m_st q3, pb_some, x_49]
  dsimp only
  rw [x_end h7 hi hw]
  rcases stp q4 with ⟨b0, r1, r2, r3, r4⟩ | ⟨r1, r2⟩
  · rw [if_pos r1, if_pos r2, if_pos (show (1 : Int32) = 0 ∨ (1 : Int32) = 1 from Or.inr rfl)]
    refine Or.inr ⟨b2 + 1, tk2, nI b2, nu2, NU, z1', t1', z2', t2', z3', t3', z0', t0', SE', nI b2, kd2, va2, rd', by omega, by omega, ?_, ?_, hRS⟩
    · rw [r3, hk]
      rfl
    · rw [r4]
  · rw [if_neg r1, if_neg r2, if_pos (show (0 : Int32) = 0 ∨ (0 : Int32) = 1 from Or.inl rfl)]
    exact Or.inl ⟨b2, _, _, q4.2.2.1, rfl, rfl, rfl, rfl⟩
theorem it_put (h : TXD c f g n s s') {p : Nat} (hp : p ≤ n) {k lo hE : Nat} (hk : k < 3) (hh : hE ≤ 1000) (told : ∀ a, g_X9_isAsTold z0 (nI k) (nI 0) a 0 = some (if (lo : Int) ≤ a.toInt ∧ a.toInt < hE then 1 else 0)) (hw : zWID k = nI 1) (a b : Int32) (ha : a.toInt = lo) (hb : b.toInt = (hE : Int) - 1) (tk fi nu be kd : Int32) (va : Int64) (NU : Nat → Int32)
    (hm : g_X11_takesPut s' g (nI k) (nI p) be kd va rd = g_X11_takesPut_30 s' g (nI k) a b (nI p) be kd va rd) (hv : ∀ v, lo ≤ v → v < hE → ((k = 0 → 1 ≤ v ∧ v ≤ 4) ∧ (k = 1 → v ≤ 1) ∧ (k = 2 → v ≤ 240))) (hRS : RS z0 z1 z2 z3 s4 t0 t1 t2 t3 c4 SE SK (mrg rd w0)) :
    IRes f n s p s4 c4 SK w0 (g_X6_isItem_43 250 48 24 20 10 1 s f 3 16 3 8 2 10 2 5 (nI k) (nI p) tk fi nu NU z1 t1 z2 t2 z3 t3 z0 t0 SE) (g_X11_takesPut s' g (nI k) (nI p) be kd va rd) := by
  obtain ⟨b1, pl1, tk1, nu1, at1, kd1, va1, p1, p2, p3, p4⟩ := tokA h p hp tk fi nu be kd va
  have htv : ∀ v, v ≤ 999 → nu1 = nI v → (if (lo : Int) ≤ nu1.toInt ∧ nu1.toInt < hE then (1 : Int32) else 0) = if lo ≤ v ∧ v < hE then 1 else 0 := fun v hv he => by rw [he, nI_toInt (by omega)]; exact ite_iff (by omega)
  rw [x_43, p2, pb_some, hm, x_49]
  dsimp only
  rw [x_num (it := k) (i := 0) (by omega) (by omega) (by rw [hw]; decide) (by omega) (told nu1)]
  unfold g_X11_takesPut_30
  rcases num p4 lo hE hh with ⟨v, l, l0, l1, v1, v2, e1, e2, e3, e4, e5, e6⟩ | ⟨fx, fm⟩
  · rw [fo hh e1 e3 v1 v2 htv, m_tk1 p3 a b lo hE v ha hb hh e2 e4 v1 v2, pb_some]
    dsimp only
    rw [if_neg (show ¬ (1 : Int32) = 0 by decide), e5, e6]
    simp (disch := omega) only [n_z1, n_z2, n_z3, n_z4, n_z5, n_z6, n_z7, n_z8, n_leL, n_leR, n_ltL, n_ltR, n_eqL, n_eqR, n_m1R, n_addL, n_addR, n_mulL, n_mulR, n_subR, n_subL, n_add, n_mul, n_neg, n_sub, n_le, n_lt, n_eq, nI_clamp, if_true, if_false, if_pos, if_neg, or_false, false_or, not_false_eq_true, not_true_eq_false]
    rw [e4, nL_i]
    refine it_stop h (by omega) l1 (it := k) (i := 1) (by omega) (by omega) (by rw [hw]; decide) tk1 (nI b1) nu1 (nI b1) kd1 (nL v) (upd NU 0 nu1) (65532 + 1 + 1) (z1' := z1) (t1' := t1) (z2' := z2) (t2' := t2) (z3' := z3) (t3' := t3) (z0' := z0) (t0' := t0) (SE' := upd SE k nu1) ?_ ?_
    · unfold g_X6_keep
      rw [if_neg (show ¬ 3 ≤ nI k by simp (disch := omega) only [n_z1, n_z2, n_z3, n_z4, n_z5, n_z6, n_z7, n_z8, n_leL, n_leR, n_ltL, n_ltR, n_eqL, n_eqR, n_m1R, n_addL, n_addR, n_mulL, n_mulR, n_subR, n_subL, n_add, n_mul, n_neg, n_sub, n_le, n_lt, n_eq, nI_clamp, if_true, if_false, if_pos, if_neg, or_false, false_or, not_false_eq_true, not_true_eq_false]; omega)]
      simp (disch := omega) only [n_z1, n_z2, n_z3, n_z4, n_z5, n_z6, n_z7, n_z8, n_leL, n_leR, n_ltL, n_ltR, n_eqL, n_eqR, n_m1R, n_addL, n_addR, n_mulL, n_mulR, n_subR, n_subL, n_add, n_mul, n_neg, n_sub, n_le, n_lt, n_eq, nI_clamp, if_true, if_false, if_pos, if_neg, or_false, false_or, not_false_eq_true, not_true_eq_false]
      rfl
    · rw [e3, mrg_upd _ _ _ _ (by omega), Nat.zero_add]
      have hv' := hv v v1 v2
      exact rs_put hRS k (nI v) hk ⟨fun q => by have := hv'.1 q; rw [nI_toInt (by omega)]; omega, fun q => by have := hv'.2.1 q; rw [nI_toInt (by omega)]; omega, fun q => by have := hv'.2.2 q; rw [nI_toInt (by omega)]; omega⟩
  · rw [ff fx htv, m_tk0 p3 a b lo hE ha hb fm, pb_some]
    dsimp only
    rw [if_pos rfl]
    exact Or.inl ⟨b1, _, _, p4.2.2.1, rfl, rfl, rfl, rfl⟩
theorem it_person (h : TXD c f g n s s') {p : Nat} (hp : p ≤ n) (tk fi nu be kd : Int32) (va : Int64) (NU : Nat → Int32) {np : Nat} (hz : z0 = nI np) (hnp : np < 5) (hr : rd 3 = nI np) (hRS : RS z0 z1 z2 z3 s4 t0 t1 t2 t3 c4 SE SK (mrg rd w0)) :
    IRes f n s p s4 c4 SK w0 (g_X6_isItem_43 250 48 24 20 10 1 s f 3 16 3 8 2 10 2 5 (nI 3) (nI p) tk fi nu NU z1 t1 z2 t2 z3 t3 z0 t0 SE) (g_X11_takesPerson s' g (nI p) be kd va rd) := by
  obtain ⟨b1, pl1, tk1, nu1, at1, kd1, va1, p1, p2, p3, p4⟩ := tokA h p hp tk fi nu be kd va
  have ht1 : ∀ v, v ≤ 999 → nu1 = nI v → (if 0 ≤ nu1.toInt ∧ nu1.toInt ≤ 5 then (1 : Int32) else 0) = if 0 ≤ v ∧ v < 6 then 1 else 0 := fun v hv he => by rw [he, nI_toInt (by omega)]; exact ite_iff (by omega)
  rw [x_43, p2, pb_some, x_49]
  dsimp only
  rw [x_num (it := 3) (i := 0) (by omega) (by omega) (by decide) (by omega) (told30 z0 nu1 _)]
  unfold g_X11_takesPerson
  rw [hr, if_neg (show ¬ nI np = 5 by simp (disch := omega) only [n_z1, n_z2, n_z3, n_z4, n_z5, n_z6, n_z7, n_z8, n_leL, n_leR, n_ltL, n_ltR, n_eqL, n_eqR, n_m1R, n_addL, n_addR, n_mulL, n_mulR, n_subR, n_subL, n_add, n_mul, n_neg, n_sub, n_le, n_lt, n_eq, nI_clamp, if_true, if_false, if_pos, if_neg, or_false, false_or, not_false_eq_true, not_true_eq_false]; omega)]
  rcases num p4 0 6 (by omega) with ⟨v, l, l0, l1, v1, v2, e1, e2, e3, e4, e5, e6⟩ | ⟨fx, fm⟩
  · rw [fo (by omega) e1 e3 v1 v2 ht1, m_tk1 p3 0 5 0 6 v rfl rfl (by omega) e2 e4 v1 v2, pb_some]
    dsimp only
    rw [if_neg (show ¬ (1 : Int32) = 0 by decide), e5, e6]
    obtain ⟨b2, pl2, tk2, nu2, at2, kd2, va2, q1, q2, q3, q4⟩ := tokA h (b1 + l) l1 tk1 (nI b1) nu1 (nI b1) kd1 va1
    have ht2 : ∀ v, v ≤ 999 → nu2 = nI v → (if 0 ≤ nu2.toInt ∧ nu2.toInt ≤ 1 then (1 : Int32) else 0) = if 0 ≤ v ∧ v < 2 then 1 else 0 := fun v hv he => by rw [he, nI_toInt (by omega)]; exact ite_iff (by omega)
    rw [q2, pb_some, x_49]
    dsimp only
    rw [x_num (it := 3) (i := 0 + 1) (by omega) (by omega) (by decide) (by omega) (told31 z0 nu2 _)]
    simp (disch := omega) only [n_z1, n_z2, n_z3, n_z4, n_z5, n_z6, n_z7, n_z8, n_leL, n_leR, n_ltL, n_ltR, n_eqL, n_eqR, n_m1R, n_addL, n_addR, n_mulL, n_mulR, n_subR, n_subL, n_add, n_mul, n_neg, n_sub, n_le, n_lt, n_eq, nI_clamp, if_true, if_false, if_pos, if_neg, or_false, false_or, not_false_eq_true, not_true_eq_false]
    rcases num q4 0 2 (by omega) with ⟨v', l', l0', l1', v1', v2', e1', e2', e3', e4', e5', e6'⟩ | ⟨fx, fm⟩
    · rw [fo (by omega) e1' e3' v1' v2' ht2, m_tk1 q3 0 1 0 2 v' rfl rfl (by omega) e2' e4' v1' v2', pb_some]
      dsimp only
      rw [if_neg (show ¬ (1 : Int32) = 0 by decide), e5', e6', e4, e4', nL_i, nL_i]
      have e9 : upd (upd rd (13 + np) (nI v)) (18 + np) (nI v') 3 + 1 = nI (np + 1) := by rw [upd_eq, if_neg (by omega), upd_eq, if_neg (by omega), hr, n_addR]
      rw [e9]
      refine it_stop h (by omega) l1' (it := 3) (i := 2) (by omega) (by omega) (by decide) tk2 (nI b2) nu2 (nI b2) kd2 (nL v') (upd (upd NU 0 nu1) 1 nu2) (65532 + 1) (z1' := z1) (t1' := t1) (z2' := z2) (t2' := t2) (z3' := z3) (t3' := t3) (z0' := nI (np + 1)) (t0' := upd (upd t0 (2 * np) nu1) (2 * np + 1) nu2) (SE' := SE) ?_ ?_
      · unfold g_X6_keep
        rw [if_pos (show 3 ≤ nI 3 by decide), show g_X9_rowsOf (nI 3) = some 3 from rfl, pb_some, if_neg (by decide), if_neg (by decide), if_neg (by decide), if_pos rfl, p_add2E hz (L := 5) (lim := 5) rfl hnp (by omega) (by omega) (by omega), pb_some]
        rfl
      · rw [e3, e3', mrg_upd _ _ _ _ (by omega), mrg_upd _ _ _ _ (by omega), mrg_upd _ _ _ _ (by omega)]
        exact rs_person hRS hz hnp (by rw [nI_toInt (by omega)]; omega) (by rw [nI_toInt (by omega)]; omega)
    · rw [ff fx ht2, m_tk0 q3 0 1 0 2 rfl rfl fm, pb_some]
      dsimp only
      rw [if_pos rfl]
      exact Or.inl ⟨b2, _, _, q4.2.2.1, rfl, rfl, rfl, rfl⟩
  · rw [ff fx ht1, m_tk0 p3 0 5 0 6 rfl rfl fm, pb_some]
    dsimp only
    rw [if_pos rfl]
    exact Or.inl ⟨b1, _, _, p4.2.2.1, rfl, rfl, rfl, rfl⟩
theorem it_sight (h : TXD c f g n s s') {p : Nat} (hp : p ≤ n) (tk fi nu be kd : Int32) (va : Int64) (NU : Nat → Int32) {ns : Nat} (hz : z3 = nI ns) (hns : ns < 10) (hr : rd 6 = nI ns) (hRS : RS z0 z1 z2 z3 s4 t0 t1 t2 t3 c4 SE SK (mrg rd w0)) :
    IRes f n s p s4 c4 SK w0 (g_X6_isItem_43 250 48 24 20 10 1 s f 3 16 3 8 2 10 2 5 (nI 6) (nI p) tk fi nu NU z1 t1 z2 t2 z3 t3 z0 t0 SE) (g_X11_takesSight s' g (nI p) be kd va rd) := by
  obtain ⟨b1, pl1, tk1, nu1, at1, kd1, va1, p1, p2, p3, p4⟩ := tokA h p hp tk fi nu be kd va
  have ht1 : ∀ v, v ≤ 999 → nu1 = nI v → (if 0 ≤ nu1.toInt ∧ nu1.toInt ≤ 240 then (1 : Int32) else 0) = if 0 ≤ v ∧ v < 241 then 1 else 0 := fun v hv he => by rw [he, nI_toInt (by omega)]; exact ite_iff (by omega)
  rw [x_43, p2, pb_some, x_49]
  dsimp only
  rw [x_num (it := 6) (i := 0) (by omega) (by omega) (by decide) (by omega) (told60 z0 nu1 _)]
  unfold g_X11_takesSight
  rw [hr, if_neg (show ¬ nI ns = 10 by simp (disch := omega) only [n_z1, n_z2, n_z3, n_z4, n_z5, n_z6, n_z7, n_z8, n_leL, n_leR, n_ltL, n_ltR, n_eqL, n_eqR, n_m1R, n_addL, n_addR, n_mulL, n_mulR, n_subR, n_subL, n_add, n_mul, n_neg, n_sub, n_le, n_lt, n_eq, nI_clamp, if_true, if_false, if_pos, if_neg, or_false, false_or, not_false_eq_true, not_true_eq_false]; omega)]
  rcases num p4 0 241 (by omega) with ⟨v, l, l0, l1, v1, v2, e1, e2, e3, e4, e5, e6⟩ | ⟨fx, fm⟩
  · rw [fo (by omega) e1 e3 v1 v2 ht1, m_tk1 p3 0 240 0 241 v rfl rfl (by omega) e2 e4 v1 v2, pb_some]
    dsimp only
    rw [if_neg (show ¬ (1 : Int32) = 0 by decide), e5, e6]
    obtain ⟨b2, pl2, tk2, nu2, at2, kd2, va2, q1, q2, q3, q4⟩ := tokA h (b1 + l) l1 tk1 (nI b1) nu1 (nI b1) kd1 va1
    have ht2 : ∀ v, v ≤ 999 → nu2 = nI v → (if 0 ≤ nu2.toInt ∧ nu2.toInt ≤ 999 then (1 : Int32) else 0) = if 0 ≤ v ∧ v < 1000 then 1 else 0 := fun v hv he => by rw [he, nI_toInt (by omega)]; exact ite_iff (by omega)
    rw [q2, pb_some, x_49]
    dsimp only
    rw [x_num (it := 6) (i := 0 + 1) (by omega) (by omega) (by decide) (by omega) (told61 z0 nu2 _)]
    simp (disch := omega) only [n_z1, n_z2, n_z3, n_z4, n_z5, n_z6, n_z7, n_z8, n_leL, n_leR, n_ltL, n_ltR, n_eqL, n_eqR, n_m1R, n_addL, n_addR, n_mulL, n_mulR, n_subR, n_subL, n_add, n_mul, n_neg, n_sub, n_le, n_lt, n_eq, nI_clamp, if_true, if_false, if_pos, if_neg, or_false, false_or, not_false_eq_true, not_true_eq_false]
    rcases num q4 0 1000 (by omega) with ⟨v', l', l0', l1', v1', v2', e1', e2', e3', e4', e5', e6'⟩ | ⟨fx, fm⟩
    · rw [fo (by omega) e1' e3' v1' v2' ht2, m_tk1 q3 0 999 0 1000 v' rfl rfl (by omega) e2' e4' v1' v2', pb_some]
      dsimp only
      rw [if_neg (show ¬ (1 : Int32) = 0 by decide), e5', e6', e4, e4', nL_i, nL_i]
      have e9 : upd (upd rd (95 + ns) (nI v)) (105 + ns) (nI v') 6 + 1 = nI (ns + 1) := by rw [upd_eq, if_neg (by omega), upd_eq, if_neg (by omega), hr, n_addR]
      rw [e9]
      refine it_stop h (by omega) l1' (it := 6) (i := 2) (by omega) (by omega) (by decide) tk2 (nI b2) nu2 (nI b2) kd2 (nL v') (upd (upd NU 0 nu1) 1 nu2) (65532 + 1) (z1' := z1) (t1' := t1) (z2' := z2) (t2' := t2) (z3' := nI (ns + 1)) (t3' := upd (upd t3 (2 * ns) nu1) (2 * ns + 1) nu2) (z0' := z0) (t0' := t0) (SE' := SE) ?_ ?_
      · unfold g_X6_keep
        rw [if_pos (show 3 ≤ nI 6 by decide), show g_X9_rowsOf (nI 6) = some 2 from rfl, pb_some, if_neg (by decide), if_neg (by decide), if_pos rfl, p_add2E hz (L := 10) (lim := 10) rfl hns (by omega) (by omega) (by omega), pb_some]
        rfl
      · rw [e3, e3', mrg_upd _ _ _ _ (by omega), mrg_upd _ _ _ _ (by omega), mrg_upd _ _ _ _ (by omega)]
        exact rs_sight hRS hz hns (by rw [nI_toInt (by omega)]; omega) (by rw [nI_toInt (by omega)]; omega)
    · rw [ff fx ht2, m_tk0 q3 0 999 0 1000 rfl rfl fm, pb_some]
      dsimp only
      rw [if_pos rfl]
      exact Or.inl ⟨b2, _, _, q4.2.2.1, rfl, rfl, rfl, rfl⟩
  · rw [ff fx ht1, m_tk0 p3 0 240 0 241 rfl rfl fm, pb_some]
    dsimp only
    rw [if_pos rfl]
    exact Or.inl ⟨b1, _, _, p4.2.2.1, rfl, rfl, rfl, rfl⟩
theorem it_talk (h : TXD c f g n s s') {p : Nat} (hp : p ≤ n) (tk fi nu be kd : Int32) (va : Int64) (NU : Nat → Int32) {np nt : Nat} (hz0 : z0 = nI np) (hnp : np ≤ 5) (hr3 : rd 3 = nI np) (hz : z1 = nI nt) (hnt : nt < 16) (hr : rd 4 = nI nt) (hRS : RS z0 z1 z2 z3 s4 t0 t1 t2 t3 c4 SE SK (mrg rd w0)) :
    IRes f n s p s4 c4 SK w0 (g_X6_isItem_43 250 48 24 20 10 1 s f 3 16 3 8 2 10 2 5 (nI 4) (nI p) tk fi nu NU z1 t1 z2 t2 z3 t3 z0 t0 SE) (g_X11_takesTalk s' g (nI p) be kd va rd) := by
  obtain ⟨b1, pl1, tk1, nu1, at1, kd1, va1, p1, p2, p3, p4⟩ := tokA h p hp tk fi nu be kd va
  have ht1 : ∀ v, v ≤ 999 → nu1 = nI v → (if 0 ≤ nu1.toInt ∧ nu1.toInt < np then (1 : Int32) else 0) = if 0 ≤ v ∧ v < np then 1 else 0 := fun v hv he => by rw [he, nI_toInt (by omega)]; exact ite_iff (by omega)
  rw [x_43, p2, pb_some, x_49]
  dsimp only
  rw [x_num (it := 4) (i := 0) (by omega) (by omega) (by decide) (by omega) (told40 hz0 hnp nu1 _)]
  unfold g_X11_takesTalk
  rw [hr, hr3, if_neg (show ¬ nI nt = 16 by simp (disch := omega) only [n_z1, n_z2, n_z3, n_z4, n_z5, n_z6, n_z7, n_z8, n_leL, n_leR, n_ltL, n_ltR, n_eqL, n_eqR, n_m1R, n_addL, n_addR, n_mulL, n_mulR, n_subR, n_subL, n_add, n_mul, n_neg, n_sub, n_le, n_lt, n_eq, nI_clamp, if_true, if_false, if_pos, if_neg, or_false, false_or, not_false_eq_true, not_true_eq_false]; omega)]
  have hb3 : (nI np - 1).toInt = (np : Int) - 1 := n_pm1 (by omega)
  rcases num p4 0 np (by omega) with ⟨v, l, l0, l1, v1, v2, e1, e2, e3, e4, e5, e6⟩ | ⟨fx, fm⟩
  · rw [fo (by omega) e1 e3 v1 v2 ht1, m_tk1 p3 0 (nI np - 1) 0 np v rfl hb3 (by omega) e2 e4 v1 v2, pb_some]
    dsimp only
    rw [if_neg (show ¬ (1 : Int32) = 0 by decide), e5, e6]
    obtain ⟨b2, pl2, tk2, nu2, at2, kd2, va2, q1, q2, q3, q4⟩ := tokA h (b1 + l) l1 tk1 (nI b1) nu1 (nI b1) kd1 va1
    have ht2 : ∀ v, v ≤ 999 → nu2 = nI v → (if 0 ≤ nu2.toInt ∧ nu2.toInt ≤ 239 then (1 : Int32) else 0) = if 0 ≤ v ∧ v < 240 then 1 else 0 := fun v hv he => by rw [he, nI_toInt (by omega)]; exact ite_iff (by omega)
    rw [q2, pb_some, x_49]
    dsimp only
    rw [x_num (it := 4) (i := 0 + 1) (by omega) (by omega) (by decide) (by omega) (told41 z0 nu2 _)]
    simp (disch := omega) only [n_z1, n_z2, n_z3, n_z4, n_z5, n_z6, n_z7, n_z8, n_leL, n_leR, n_ltL, n_ltR, n_eqL, n_eqR, n_m1R, n_addL, n_addR, n_mulL, n_mulR, n_subR, n_subL, n_add, n_mul, n_neg, n_sub, n_le, n_lt, n_eq, nI_clamp, if_true, if_false, if_pos, if_neg, or_false, false_or, not_false_eq_true, not_true_eq_false]
    rcases num q4 0 240 (by omega) with ⟨v', l', l0', l1', v1', v2', e1', e2', e3', e4', e5', e6'⟩ | ⟨fx, fm⟩
    · rw [fo (by omega) e1' e3' v1' v2' ht2, m_tk1 q3 0 239 0 240 v' rfl rfl (by omega) e2' e4' v1' v2', pb_some]
      dsimp only
      rw [if_neg (show ¬ (1 : Int32) = 0 by decide), e5', e6', e4', nL_i]
      obtain ⟨b3, pl3, tk3, nu3, at3, kd3, va3, u1, u2, u3, u4⟩ := tokA h (b2 + l') l1' tk2 (nI b2) nu2 (nI b2) kd2 (nL v')
      have ht3 : ∀ v, v ≤ 999 → nu3 = nI v → (if 0 ≤ nu3.toInt ∧ nu3.toInt ≤ 240 ∧ nu2.toInt < nu3.toInt then (1 : Int32) else 0) = if v' + 1 ≤ v ∧ v < 241 then 1 else 0 := fun v hv he => by rw [he, e3', nI_toInt (by omega), nI_toInt (by omega)]; exact ite_iff (by omega)
      have ha3 : (nI v' + 1).toInt = ((v' + 1 : Nat) : Int) := by rw [n_addR, nI_toInt (by omega)]
      rw [u2, pb_some, x_49]
      dsimp only
      rw [x_num (it := 4) (i := 2) (by omega) (by omega) (by decide) (by omega) (told42 z0 nu3 _), show (if (2 : Nat) = 0 then (0 : Int32) else upd (upd NU 0 nu1) 1 nu2 (2 - 1)) = nu2 from rfl]
      rcases num u4 (v' + 1) 241 (by omega) with ⟨v'', l'', l0'', l1'', v1'', v2'', e1'', e2'', e3'', e4'', e5'', e6''⟩ | ⟨fx, fm⟩
      · rw [fo (by omega) e1'' e3'' v1'' v2'' ht3, m_tk1 u3 (nI v' + 1) 240 (v' + 1) 241 v'' ha3 rfl (by omega) e2'' e4'' v1'' v2'', pb_some]
        dsimp only
        rw [if_neg (show ¬ (1 : Int32) = 0 by decide), e5'', e6'', e4, e4'', nL_i, nL_i]
        have e9 : upd (upd (upd rd (23 + nt) (nI v)) (39 + nt) (nI v')) (55 + nt) (nI v'') 4 + 1 = nI (nt + 1) := by rw [upd_eq, if_neg (by omega), upd_eq, if_neg (by omega), upd_eq, if_neg (by omega), hr, n_addR]
        rw [e9]
        refine it_stop h (by omega) l1'' (it := 4) (i := 3) (by omega) (by omega) (by decide) tk3 (nI b3) nu3 (nI b3) kd3 (nL v'') (upd (upd (upd NU 0 nu1) 1 nu2) 2 nu3) 65532 (z1' := nI (nt + 1)) (t1' := upd (upd (upd t1 (3 * nt) nu1) (3 * nt + 1) nu2) (3 * nt + 2) nu3) (z2' := z2) (t2' := t2) (z3' := z3) (t3' := t3) (z0' := z0) (t0' := t0) (SE' := SE) ?_ ?_
        · unfold g_X6_keep
          rw [if_pos (show 3 ≤ nI 4 by decide), show g_X9_rowsOf (nI 4) = some 0 from rfl, pb_some, if_pos rfl, p_add3E hz (L := 16) (lim := 16) rfl hnt (by omega) (by omega) (by omega), pb_some]
          rfl
        · rw [e3, e3', e3'', mrg_upd _ _ _ _ (by omega), mrg_upd _ _ _ _ (by omega), mrg_upd _ _ _ _ (by omega), mrg_upd _ _ _ _ (by omega)]
          exact rs_talk hRS hz hnt (by rw [hz0, nI_toInt (by omega), nI_toInt (by omega)]; omega) (by rw [nI_toInt (by omega), nI_toInt (by omega)]; omega)
      · rw [ff fx ht3, m_tk0 u3 (nI v' + 1) 240 (v' + 1) 241 ha3 rfl fm, pb_some]
        dsimp only
        rw [if_pos rfl]
        exact Or.inl ⟨b3, _, _, u4.2.2.1, rfl, rfl, rfl, rfl⟩
    · rw [ff fx ht2, m_tk0 q3 0 239 0 240 rfl rfl fm, pb_some]
      dsimp only
      rw [if_pos rfl]
      exact Or.inl ⟨b2, _, _, q4.2.2.1, rfl, rfl, rfl, rfl⟩
  · rw [ff fx ht1, m_tk0 p3 0 (nI np - 1) 0 np rfl hb3 fm, pb_some]
    dsimp only
    rw [if_pos rfl]
    exact Or.inl ⟨b1, _, _, p4.2.2.1, rfl, rfl, rfl, rfl⟩
end
