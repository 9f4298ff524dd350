/-! THE DAY: what people count, and the clocks: on the class's side -/
section
variable (w : Nat → Int32) (tv : TVT) (some_ : Int32) (nt : Nat)
def vo (p m : Nat) (cl ot : Int32) : Int32 :=
  if w (13 + p) = 1 then 2 else if w (13 + p) = 2 then w 1 else if w (13 + p) = 3 then (if nI m - nI m / 3 * 3 = 0 then 1 else 0)
  else if w (13 + p) = 4 then (if tv cl (nI m) ot (nI p) then w 1 else 0) else if w (13 + p) = 5 then (if w 2 ≤ cl then 0 else 1) else 1
/-- what the first so many of a valley count together -/
def sm (v m : Nat) (cl : Int32) : Nat → Int32
  | 0 => 0
  | p + 1 => if TB some_ p = true ∧ tk w p m nt = true ∧ w (18 + p) = nI v then sm v m cl p + vo w tv p m cl (sm v m cl p) else sm v m cl p
def mn (a s : Int32) : Int32 := if a < s then a else s
/-- a valley's clock -/
def cw (np v : Nat) : Nat → Int32
  | 0 => 0
  | m + 1 => cw np v m + mn (w 0) (sm w tv some_ nt v m (cw np v m) np)
/-- what one counts -/
def ctv (np v p m : Nat) : Int32 := if TB some_ p = true ∧ tk w p m nt = true then vo w tv p m (cw w tv some_ nt np v m) (sm w tv some_ nt v m (cw w tv some_ nt np v m) p) else 0
end
def PG (w : Nat → Int32) (np : Nat) : Prop := ∀ p, p < np → (0 ≤ (w (13 + p)).toInt ∧ (w (13 + p)).toInt ≤ 5) ∧ (0 ≤ (w (18 + p)).toInt ∧ (w (18 + p)).toInt ≤ 1)
theorem i32_of {x : Int32} {k : Int} {y : Int32} (h : x.toInt = k) (hy : y.toInt = k) : x = y := Int32.toInt_inj.mp (h.trans hy.symm)
theorem kind_cases {x : Int32} (h : 0 ≤ x.toInt ∧ x.toInt ≤ 5) : x = nI 0 ∨ x = nI 1 ∨ x = nI 2 ∨ x = nI 3 ∨ x = nI 4 ∨ x = nI 5 := by
  rcases (show x.toInt = 0 ∨ x.toInt = 1 ∨ x.toInt = 2 ∨ x.toInt = 3 ∨ x.toInt = 4 ∨ x.toInt = 5 by omega) with e | e | e | e | e | e
  · exact Or.inl (i32_of e (by decide))
  · exact Or.inr (Or.inl (i32_of e (by decide)))
  · exact Or.inr (Or.inr (Or.inl (i32_of e (by decide))))
  · exact Or.inr (Or.inr (Or.inr (Or.inl (i32_of e (by decide)))))
  · exact Or.inr (Or.inr (Or.inr (Or.inr (Or.inl (i32_of e (by decide))))))
  · exact Or.inr (Or.inr (Or.inr (Or.inr (Or.inr (i32_of e (by decide))))))
theorem valley_cases {x : Int32} (h : 0 ≤ x.toInt ∧ x.toInt ≤ 1) : x = nI 0 ∨ x = nI 1 := by
  rcases (show x.toInt = 0 ∨ x.toInt = 1 by omega) with e | e
  · exact Or.inl (i32_of e (by decide))
  · exact Or.inr (i32_of e (by decide))
section
variable {w c0 SE row T : Nat → Int32} {tv : TVT} {np nt L : Nat} {size fault : Int32} {c : Nat → Int32}
theorem x_voice (hL : L ≤ 40) (hnp : np ≤ 5) (hP : PG w np) (hc : ∀ p, p < np → c0 (2 * p) = w (13 + p) ∧ c0 (2 * p + 1) = w (18 + p)) (hse : ∀ j, j < 3 → SE j = w j) (hR : RT c L (w 2) (w 0) size fault row tv)
    (p m : Nat) (hp : p < np) (cl ot : Int32) (kn : Nat → Int32) (st : Nat → Int64) : ∃ kn' st', g_X1_voiceOf 10 SE 2 (nI np) c0 size fault row (nI p) (nI m) cl ot kn st = some (vo w tv p m cl ot, kn', st') := by
  unfold g_X1_voiceOf
  rw [x_at20 hp (by omega) (by omega) (by omega), pb_some, (hc p hp).1, hse 1 (by omega), hse 2 (by omega)]
  obtain ⟨kn', st', hh⟩ := x_holds hL (SE := SE) (by rw [hse 2 (by omega), hse 0 (by omega)]; exact hR) (nI p) (nI m) cl ot kn st
  unfold vo
  rcases kind_cases (hP p hp).1 with e | e | e | e | e | e <;> rw [e] <;> simp (disch := omega) only [n_z1, n_z2, n_z3, n_z4, n_z5, n_z6, n_z7, n_z8, n_leL, n_leR, n_ltL, n_ltR, n_eqL, n_eqR, n_m1R, n_addL, n_addR, n_mulL, n_mulR, n_subR, n_subL, n_add, n_mul, n_neg, n_sub, n_le, n_lt, n_eq, nI_clamp, if_true, if_false, if_pos, if_neg, or_false, false_or, not_false_eq_true, not_true_eq_false]
  · exact ⟨kn, st, rfl⟩
  · exact ⟨kn, st, rfl⟩
  · exact ⟨kn, st, rfl⟩
  · split
    · exact ⟨kn, st, rfl⟩
    · exact ⟨kn, st, rfl⟩
  · by_cases e1 : w 1 = 0
    · rw [if_pos e1]
      exact ⟨kn, st, by rw [e1, ite_self]⟩
    · rw [if_neg e1, hh, pb_some]
      cases hb : tv cl (nI m) ot (nI p)
      · exact ⟨kn', st', rfl⟩
      · exact ⟨kn', st', rfl⟩
  · split
    · exact ⟨kn, st, rfl⟩
    · exact ⟨kn, st, rfl⟩
theorem p_isInN (k lo hi : Nat) (hk : k < 2 ^ 31) (hlo : lo < 2 ^ 31) (hhi : hi < 2 ^ 31) : g_X10_isIn (nI k) (nI lo) (nI hi) = some (if lo ≤ k ∧ k ≤ hi then 1 else 0) := by
  rw [p_isIn, nI_toInt hk, nI_toInt hlo, nI_toInt hhi]
  simp
theorem x_isTalking (hT : TKX w nt T) {p m : Nat} (hp : p < 5) (hm : m < 240) : g_X1_isTalking T (nI p) (nI m) = some (if tk w p m nt = true then 1 else 0) := by
  unfold g_X1_isTalking
  have hi : g_X10_isIn (nI m) 0 239 = some 1 := (p_isInN m 0 239 (by omega) (by omega) (by omega)).trans (by rw [if_pos (by omega)])
  rw [hi, pb_some, if_neg (by decide), if_neg (nI_in hm (by omega)), nI_clamp (by omega)]
  have h := hT m hm p hp
  by_cases e : tk w p m nt = true
  · rw [if_neg, if_pos e]
    rw [bit_0 _ hp, h, e]; decide
  · rw [if_pos, if_neg e]
    rw [bit_0 _ hp, h]; simpa using e
theorem x_tog (hL : L ≤ 40) (hnp : np ≤ 5) (hP : PG w np) (hc : ∀ p, p < np → c0 (2 * p) = w (13 + p) ∧ c0 (2 * p + 1) = w (18 + p)) (hse : ∀ j, j < 3 → SE j = w j) (hR : RT c L (w 2) (w 0) size fault row tv) (hT : TKX w nt T)
    (some_ : Int32) (v m e : Nat) (hm : m < 240) (he : e ≤ np) (cl : Int32) : ∀ (k n p : Nat) (kn : Nat → Int32) (st : Nat → Int64), e - p = k → k < n → p ≤ e →
    ∃ kn' st', g_X1_together_6 10 T 2 (nI np) c0 SE size fault row (nI v) (nI m) cl some_ (nI e) n (sm w tv some_ nt v m cl p) (nI p) kn st = some (sm w tv some_ nt v m cl e, kn', st')
  | _, 0, _, _, _, _, h, _ => absurd h (Nat.not_lt_zero _)
  | k, n + 1, p, kn, st, h1, h2, h3 => by
    rw [g_X1_together_6]
    unfold g_X1_together_6b g_X1_together_65
    by_cases e1 : e ≤ p
    · simp (disch := omega) only [n_z1, n_z2, n_z3, n_z4, n_z5, n_z6, n_z7, n_z8, n_leL, n_leR, n_ltL, n_ltR, n_eqL, n_eqR, n_m1R, n_addL, n_addR, n_mulL, n_mulR, n_subR, n_subL, n_add, n_mul, n_neg, n_sub, n_le, n_lt, n_eq, nI_clamp, if_true, if_false, if_pos, if_neg, or_false, false_or, not_false_eq_true, not_true_eq_false]
      have : p = e := by omega
      subst this
      exact ⟨kn, st, rfl⟩
    · have ih := fun kn st => x_tog hL hnp hP hc hse hR hT some_ v m e hm he cl (k - 1) n (p + 1) kn st (by omega) (by omega) (by omega)
      rw [if_neg (by simp (disch := omega) only [n_z1, n_z2, n_z3, n_z4, n_z5, n_z6, n_z7, n_z8, n_leL, n_leR, n_ltL, n_ltR, n_eqL, n_eqR, n_m1R, n_addL, n_addR, n_mulL, n_mulR, n_subR, n_subL, n_add, n_mul, n_neg, n_sub, n_le, n_lt, n_eq, nI_clamp, if_true, if_false, if_pos, if_neg, or_false, false_or, not_false_eq_true, not_true_eq_false]; omega), n_addR]
      rw [sm] at ih
      by_cases e2 : TB some_ p = true
      · rw [if_neg (by rw [bit_0 _ (by omega), e2]; decide), x_isTalking hT (show p < 5 by omega) hm, pb_some]
        by_cases e3 : tk w p m nt = true
        · rw [if_pos e3, if_neg (by decide), x_at21 (by omega) (by omega) (by omega) (by omega), pb_some, (hc p (by omega)).2]
          by_cases e4 : w (18 + p) = nI v
          · rw [if_pos ⟨e2, e3, e4⟩] at ih
            obtain ⟨kn1, st1, hv⟩ := x_voice hL hnp hP hc hse hR p m (by omega) cl (sm w tv some_ nt v m cl p) kn st
            rw [if_pos e4, hv, pb_some]
            exact ih kn1 st1
          · rw [if_neg (fun h => e4 h.2.2)] at ih
            rw [if_neg e4]
            exact ih kn st
        · rw [if_neg (fun h => e3 h.2.1)] at ih
          rw [if_neg e3, if_pos rfl]
          exact ih kn st
      · rw [if_neg (fun h => e2 h.1)] at ih
        rw [if_pos (by rw [bit_0 _ (by omega)]; simpa using e2)]
        exact ih kn st
theorem x_together (hL : L ≤ 40) (hnp : np ≤ 5) (hP : PG w np) (hc : ∀ p, p < np → c0 (2 * p) = w (13 + p) ∧ c0 (2 * p + 1) = w (18 + p)) (hse : ∀ j, j < 3 → SE j = w j) (hR : RT c L (w 2) (w 0) size fault row tv) (hT : TKX w nt T)
    (some_ : Int32) (v m e : Nat) (hm : m < 240) (he : e ≤ np) (cl : Int32) (kn : Nat → Int32) (st : Nat → Int64) :
    ∃ kn' st', g_X1_together 10 T 2 (nI np) c0 SE size fault row (nI v) (nI m) cl some_ (nI e) kn st = some (sm w tv some_ nt v m cl e, kn', st') :=
  x_tog hL hnp hP hc hse hR hT some_ v m e hm he cl e zF 0 kn st rfl (by show _ < 65536; omega) (by omega)
end
