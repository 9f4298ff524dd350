/-! WHAT HOLDS BETWEEN CALLS -/
theorem va_n {α : Type} (f : Nat → α) (k : Nat) (x : α) (j : Nat) : va_up f k x j = if j = k then x else f j := rfl
/-- the rule as read, and the day as wound -/
def cR (w : Nat → Int32) (size fault stale : Int32) (row : Nat → Int32) : Prop := stale = 0 → ∃ tv, RT (fun j => w (115 + j)) (tn (w 7)) (w 2) (w 0) size fault row tv
def cD (w : Nat → Int32) (size fault stale : Int32) (row : Nat → Int32) (dst : Int32) (T C0 C1 : Nat → Int32) : Prop := dst = 0 → stale = 0 ∧ ∃ tv, RT (fun j => w (115 + j)) (tn (w 7)) (w 2) (w 0) size fault row tv ∧ DOK w tv (tn (w 4)) (tn (w 3)) T C0 C1
theorem rg_np {w : Nat → Int32} {np nt nd ns nr : Nat} (h : RG w np nt nd ns nr) : tn (w 3) = np ∧ tn (w 4) = nt ∧ tn (w 5) = nd ∧ tn (w 6) = ns ∧ tn (w 7) = nr := by
  obtain ⟨h1, ⟨h3, h4, h5, h6, h7⟩, _⟩ := h
  rw [h3, h4, h5, h6, h7]
  exact ⟨tn_of (by omega), tn_of (by omega), tn_of (by omega), tn_of (by omega), tn_of (by omega)⟩
theorem rg_tx {w : Nat → Int32} {np nt nd ns nr : Nat} (h : RG w np nt nd ns nr) : TXT (fun j => w (115 + j)) nr := ⟨h.1.2.2.2.2, fun j hj => h.2.2.2.2.2.2.2.2 j hj⟩
theorem rg_pg {w : Nat → Int32} {np nt nd ns nr : Nat} (h : RG w np nt nd ns nr) : PG w np := h.2.2.2.2.1
theorem rg_tg {w : Nat → Int32} {np nt nd ns nr : Nat} (h : RG w np nt nd ns nr) : TG w np nt := h.2.2.2.2.2.1
section
variable {w c0 c1 c2 c3 c4 SE SK : Nat → Int32} {np nt nd ns nr : Nat} {s0 s1 s2 s3 s4 : Int32}
theorem x_prepare (hG : RG w np nt nd ns nr) (hC : RC np nt nd ns nr s0 s1 s2 s3 s4 c0 c1 c2 c3 c4 SE SK w) {size fault stale dst : Int32} (pl : Int32) {row T C0 C1 : Nat → Int32} (hr : cR w size fault stale row) (hd : cD w size fault stale row dst T C0 C1) (kn : Nat → Int32) (st : Nat → Int64) :
    ∃ size' pl' fault' row' T' C0' C1' kn' st' tv, g_X10_prepare 40 48 10 1 s4 c4 3 s1 c1 2 s0 c0 SE size pl fault stale row dst T C0 C1 kn st = some (size', pl', fault', 0, row', 0, T', C0', C1', kn', st') ∧ RT (fun j => w (115 + j)) nr (w 2) (w 0) size' fault' row' tv ∧ DOK w tv nt np T' C0' C1' ∧ (dst = 0 → size' = size ∧ fault' = fault ∧ row' = row) := by
  have hn := rg_np hG
  have hT := rg_tx hG
  obtain ⟨⟨rfl, rfl, rfl, rfl, rfl⟩, r2, r3, r4, r5, r6, r7, r8⟩ := hC
  unfold cR at hr
  unfold cD at hd
  rw [hn.2.2.2.2] at hr
  rw [hn.1, hn.2.1, hn.2.2.2.2] at hd
  have day : ∀ (size' pl' fault' : Int32) (row' : Nat → Int32) (tv : TVT), g_X8_refresh 40 1 (nI nr) c4 size pl fault stale row = some (size', pl', fault', 0, row') → RT (fun j => w (115 + j)) nr (w 2) (w 0) size' fault' row' tv → (dst = 0 → DOK w tv nt np T C0 C1 ∧ size' = size ∧ fault' = fault ∧ row' = row) →
      ∃ size' pl' fault' row' T' C0' C1' kn' st' tv, g_X10_prepare 40 48 10 1 (nI nr) c4 3 (nI nt) c1 2 (nI np) c0 SE size pl fault stale row dst T C0 C1 kn st = some (size', pl', fault', 0, row', 0, T', C0', C1', kn', st') ∧ RT (fun j => w (115 + j)) nr (w 2) (w 0) size' fault' row' tv ∧ DOK w tv nt np T' C0' C1' ∧ (dst = 0 → size' = size ∧ fault' = fault ∧ row' = row) := by
    intro size' pl' fault' row' tv h1 h2 h3
    obtain ⟨T', C0', C1', kn', st', h4, h5⟩ := x_dayref hT.1 hG.1.1 hG.1.2.1 (rg_pg hG) (rg_tg hG) r4 r5 r2 h2 dst T C0 C1 kn st (fun e => (h3 e).1)
    refine ⟨size', pl', fault', row', T', C0', C1', kn', st', tv, ?_, h2, h5, fun e => (h3 e).2⟩
    unfold g_X10_prepare
    rw [h1, pb_some]
    dsimp only
    rw [h4, pb_some]
  by_cases e : stale = 0
  · subst e
    have h1 : g_X8_refresh 40 1 (nI nr) c4 size pl fault 0 row = some (size, pl, fault, 0, row) := by
      unfold g_X8_refresh
      rw [if_pos rfl]
    by_cases e2 : dst = 0
    · obtain ⟨_, tv, h2, h3⟩ := hd e2
      exact day size pl fault row tv h1 h2 (fun _ => ⟨h3, rfl, rfl, rfl⟩)
    · obtain ⟨tv, h2⟩ := hr rfl
      exact day size pl fault row tv h1 h2 (fun h => absurd h e2)
  · obtain ⟨size', pl', fault', row', h1, h2⟩ := x_refresh (f := c4) (c := fun j => w (115 + j)) (L := nr) r8 hT size pl fault stale row e
    obtain ⟨tv, h3⟩ := rt_of hT h2 (w 2) (w 0)
    exact day size' pl' fault' row' tv h1 h3 (fun h => absurd (hd h).1 e)
theorem m_wind (hG : RG w np nt nd ns nr) {size fault : Int32} {row : Nat → Int32} {tv : TVT} (hR : RT (fun j => w (115 + j)) nr (w 2) (w 0) size fault row tv) (sx a b pl : Int32) (H W A C N T : Nat → Int32) (S : Nat → Int64) : ∃ a' b' pl' H' W' A' C' N' T' S', g_X11_winds w sx a b pl H W A C N T S = some (a', b', pl', H', W', A', C', N', T', S') ∧ WOK w tv sx nt np C' N' :=
  m_winds hG.1.1 hG.1.2.1 hG.2.1.1 hG.2.1.2.1 hG.2.1.2.2.2.2 (fun _ _ => rfl) (rg_tx hG) (rg_pg hG) (rg_tg hG) hR sx a b pl H W A C N T S
end
/-! THE DAY'S ANSWERS, on both sides -/
section
variable {w C0 C1 C N T c0 SE row : Nat → Int32} {tv : TVT} {np nt : Nat}
theorem i32n {x : Int32} {lo hi : Nat} (h : (nI lo).toInt ≤ x.toInt ∧ x.toInt ≤ (nI hi).toInt) (hlo : lo < 2 ^ 31) (hhi : hi < 2 ^ 31) : ∃ k, x = nI k ∧ lo ≤ k ∧ k ≤ hi := by
  rw [nI_toInt hlo, nI_toInt hhi] at h
  exact ⟨x.toInt.toNat, (n_to (by omega)).1, by omega, by omega⟩
/-- the first minute at which a clock is as far -/
def fm (g : Nat → Int32) (x : Int32) : Nat → Nat → Int32
  | _, 0 => -1
  | m, k + 1 => if g m < x then fm g x (m + 1) k else nI m
theorem fm_cases (g : Nat → Int32) (x : Int32) : ∀ (k m : Nat), fm g x m k = -1 ∨ ∃ j, m ≤ j ∧ j < m + k ∧ fm g x m k = nI j
  | 0, m => Or.inl rfl
  | k + 1, m => by
    rw [fm]
    split
    · rcases fm_cases g x k (m + 1) with h | ⟨j, h1, h2, h3⟩
      · exact Or.inl h
      · exact Or.inr ⟨j, by omega, by omega, h3⟩
    · exact Or.inr ⟨m, by omega, by omega, rfl⟩
theorem x_first2 (hD : DOK w tv nt np T C0 C1) (v : Nat) (hv : v ≤ 1) (x : Int32) : ∀ (k n m : Nat), 241 - m = k → k < n → m ≤ 241 → g_X1_firstMinute_2 C0 C1 (nI v) x n (nI m) = some (fm (fun m => cw w tv 31 nt np v m) x m k)
  | _, 0, _, _, h, _ => absurd h (Nat.not_lt_zero _)
  | k, n + 1, m, h1, h2, h3 => by
    rw [g_X1_firstMinute_2]
    unfold g_X1_firstMinute_2b
    by_cases e : 240 < m
    · simp (disch := omega) only [n_z1, n_z2, n_z3, n_z4, n_z5, n_z6, n_z7, n_z8, n_leL, n_leR, n_ltL, n_ltR, n_eqL, n_eqR, n_m1R, n_addL, n_addR, n_mulL, n_mulR, n_subR, n_subL, n_add, n_mul, n_neg, n_sub, n_le, n_lt, n_eq, nI_clamp, if_true, if_false, if_pos, if_neg, or_false, false_or, not_false_eq_true, not_true_eq_false]
      rw [show k = 0 by omega]
      rfl
    · simp (disch := omega) only [n_z1, n_z2, n_z3, n_z4, n_z5, n_z6, n_z7, n_z8, n_leL, n_leR, n_ltL, n_ltR, n_eqL, n_eqR, n_m1R, n_addL, n_addR, n_mulL, n_mulR, n_subR, n_subL, n_add, n_mul, n_neg, n_sub, n_le, n_lt, n_eq, nI_clamp, if_true, if_false, if_pos, if_neg, or_false, false_or, not_false_eq_true, not_true_eq_false]
      rw [dok_clock hD v m hv (by omega), pb_some]
      obtain ⟨k, rfl⟩ : ∃ j, k = j + 1 := ⟨k - 1, by omega⟩
      rw [fm]
      by_cases e2 : cw w tv 31 nt np v m < x
      · rw [if_pos e2, if_pos e2]
        exact x_first2 hD v hv x k n (m + 1) (by omega) (by omega) (by omega)
      · rw [if_neg e2, if_neg e2]
theorem x_first (hD : DOK w tv nt np T C0 C1) (v : Nat) (hv : v ≤ 1) (x : Int32) : g_X1_firstMinute C0 C1 (nI v) x = some (fm (fun m => cw w tv 31 nt np v m) x 0 241) := x_first2 hD v hv x 241 zF 0 rfl (by decide) (by omega)
theorem m_first2 (hW : WOK w tv 31 nt np C N) (v : Nat) (hv : v ≤ 1) (x : Int32) : ∀ (k n m : Nat), 241 - m = k → k < n → m ≤ 241 → g_X11_first_2 C (nI v) x n (nI m) = some (fm (fun m => cw w tv 31 nt np v m) x m k)
  | _, 0, _, _, h, _ => absurd h (Nat.not_lt_zero _)
  | k, n + 1, m, h1, h2, h3 => by
    rw [g_X11_first_2]
    unfold g_X11_first_2b
    by_cases e : 240 < m
    · simp (disch := omega) only [n_z1, n_z2, n_z3, n_z4, n_z5, n_z6, n_z7, n_z8, n_leL, n_leR, n_ltL, n_ltR, n_eqL, n_eqR, n_m1R, n_addL, n_addR, n_mulL, n_mulR, n_subR, n_subL, n_add, n_mul, n_neg, n_sub, n_le, n_lt, n_eq, nI_clamp, if_true, if_false, if_pos, if_neg, or_false, false_or, not_false_eq_true, not_true_eq_false]
      rw [show k = 0 by omega]
      rfl
    · simp (disch := omega) only [n_z1, n_z2, n_z3, n_z4, n_z5, n_z6, n_z7, n_z8, n_leL, n_leR, n_ltL, n_ltR, n_eqL, n_eqR, n_m1R, n_addL, n_addR, n_mulL, n_mulR, n_subR, n_subL, n_add, n_mul, n_neg, n_sub, n_le, n_lt, n_eq, nI_clamp, if_true, if_false, if_pos, if_neg, or_false, false_or, not_false_eq_true, not_true_eq_false]
      rw [hW.1 v hv m (by omega)]
      obtain ⟨k, rfl⟩ : ∃ j, k = j + 1 := ⟨k - 1, by omega⟩
      rw [fm]
      by_cases e2 : cw w tv 31 nt np v m < x
      · rw [if_pos e2, if_pos e2]
        exact m_first2 hW v hv x k n (m + 1) (by omega) (by omega) (by omega)
      · rw [if_neg e2, if_neg e2]
theorem m_first (hW : WOK w tv 31 nt np C N) (v : Nat) (hv : v ≤ 1) (x : Int32) : g_X11_first C (nI v) x = some (fm (fun m => cw w tv 31 nt np v m) x 0 241) := m_first2 hW v hv x 241 zF 0 rfl (by decide) (by omega)
end
