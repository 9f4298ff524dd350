/-! STEPS: read -/
section
variable {c f g : Nat → Int32} {n : Nat} {s s' : Int32} {s4 : Int32} {c4 SK w0 : Nat → Int32} {z1 z2 z3 z0 : Int32} {t1 t2 t3 t0 SE rd : Nat → Int32}
theorem it_due3 (h : TXD c f g n s s') {p b3 nd : Nat} (hpb : p ≤ b3) {pl tk nu at_ kd tv by_ t a b : Int32} {va : Int64} {NU : Nat → Int32} (u4 : TR c n b3 pl tk (nI b3) nu at_ (nI b3) kd va) (z : Nat)
    (htv : ∀ v, v ≤ 999 → nu = nI v → tv = if 0 ≤ v ∧ v < 100 then 1 else 0) (hmul : ∀ v, v < 100 → nu = nI v → by_ * nI v = t ∧ -99 ≤ t.toInt ∧ t.toInt ≤ 99) (h0 : NU 0 = a) (h1 : NU 1 = b) (ha : 0 ≤ a.toInt ∧ a.toInt ≤ 99) (hb : 0 ≤ b.toInt ∧ b.toInt ≤ 99) (hz : z2 = nI nd) (hnd : nd < 8) (hr : rd 5 = nI nd) (hRS : RS z0 z1 z2 z3 s4 t0 t1 t2 t3 c4 SE SK (mrg rd w0)) :
    IRes f n s p s4 c4 SK w0 (if tk = 2 then (if tv = 0 then some (0, pl, tk, nI b3, nu, NU, z1, t1, z2, t2, z3, t3, z0, t0, SE) else (g_X6_advance 250 1 s f pl tk (nI b3) nu).bind fun v => g_X6_isItem_49 250 48 24 20 10 1 s f 3 16 3 8 2 10 2 5 (z + 1) (nI 5) (nI (2 + 1)) v.1 v.2.1 v.2.2.1 v.2.2.2 (upd NU 2 t) z1 t1 z2 t2 z3 t3 z0 t0 SE) else some (0, pl, tk, nI b3, nu, NU, z1, t1, z2, t2, z3, t3, z0, t0, SE))
      (g_X11_takesDue_85 s' g (nI nd) by_ at_ (nI b3) kd va (upd (upd rd (71 + nd) a) (79 + nd) b)) := by
  have min : ∀ v, v < 2 ^ 31 → g_X11_in (nL v) 0 99 = some (if 0 ≤ v ∧ v < 100 then 1 else 0) := fun v hv => m_in v hv 0 99 0 100 rfl rfl
  unfold g_X11_takesDue_85
  rcases num u4 0 100 (by omega) with ⟨v, l, l0, l1, v1, v2, e1, e2, e3, e4, e5, e6⟩ | ⟨fx, fm⟩
  · obtain ⟨m1, m2, m3⟩ := hmul v v2 e3
    rw [fo (by omega) e1 e3 v1 v2 htv, if_pos e2, e4, min v (by omega), pb_some, if_pos (show 0 ≤ v ∧ v < 100 from ⟨v1, v2⟩), if_neg (show ¬ (1 : Int32) = 0 by decide), e5, e6, nL_i, m1]
    simp (disch := omega) only [n_z1, n_z2, n_z3, n_z4, n_z5, n_z6, n_z7, n_z8, n_leL, n_leR, n_ltL, n_ltR, n_eqL, n_eqR, n_m1R, n_addL, n_addR, n_mulL, n_mulR, n_subR, n_subL, n_add, n_mul, n_neg, n_sub, n_le, n_lt, n_eq, nI_clamp, if_true, if_false, if_pos, if_neg, or_false, false_or, not_false_eq_true, not_true_eq_false]
    have e9 : upd (upd (upd rd (71 + nd) a) (79 + nd) b) (87 + nd) t 5 + 1 = nI (nd + 1) := by rw [upd_eq, if_neg (by omega), upd_eq, if_neg (by omega), upd_eq, if_neg (by omega), hr, n_addR]
    rw [e9]
    refine it_stop h (by omega) l1 (it := 5) (i := 3) (by omega) (by omega) (by decide) tk (nI b3) nu (nI b3) kd (nL v) (upd NU 2 t) z (z1' := z1) (t1' := t1) (z2' := nI (nd + 1)) (t2' := upd (upd (upd t2 (3 * nd) a) (3 * nd + 1) b) (3 * nd + 2) t) (z3' := z3) (t3' := t3) (z0' := z0) (t0' := t0) (SE' := SE) ?_ ?_
    · unfold g_X6_keep
      rw [if_pos (show 3 ≤ nI 5 by decide), show g_X9_rowsOf (nI 5) = some 1 from rfl, pb_some, if_neg (by decide), if_pos rfl, show upd NU 2 t 0 = a from h0, show upd NU 2 t 1 = b from h1, show upd NU 2 t 2 = t from rfl, p_add3E hz (L := 8) (lim := 8) rfl hnd (by omega) (by omega) (by omega), pb_some]
    · rw [mrg_upd _ _ _ _ (by omega), mrg_upd _ _ _ _ (by omega), mrg_upd _ _ _ _ (by omega), mrg_upd _ _ _ _ (by omega)]
      exact rs_due hRS hz hnd ha hb ⟨m2, m3⟩
  · rw [ff fx htv]
    refine Or.inl ⟨b3, (pl, tk, nI b3, nu, NU, z1, t1, z2, t2, z3, t3, z0, t0, SE), (at_, nI b3, kd, va, upd (upd rd (71 + nd) a) (79 + nd) b), u4.2.2.1, rfl, rfl, ?_, rfl⟩
    by_cases c1 : kd = 2
    · rcases fm with q | ⟨v, q1, q2, q3⟩
      · exact absurd c1 q
      · rw [if_pos c1, q2, min v (by omega), pb_some, if_neg q3, if_pos rfl]
    · rw [if_neg c1]
theorem it_due (h : TXD c f g n s s') {p : Nat} (hp : p ≤ n) (tk fi nu be kd : Int32) (va : Int64) (NU : Nat → Int32) {nd : Nat} (hz : z2 = nI nd) (hnd : nd < 8) (hr : rd 5 = nI nd) (hRS : RS z0 z1 z2 z3 s4 t0 t1 t2 t3 c4 SE SK (mrg rd w0)) :
    IRes f n s p s4 c4 SK w0 (g_X6_isItem_43 250 48 24 20 10 1 s f 3 16 3 8 2 10 2 5 (nI 5) (nI p) tk fi nu NU z1 t1 z2 t2 z3 t3 z0 t0 SE) (g_X11_takesDue s' g (nI p) be kd va rd) := by
  obtain ⟨b1, pl1, tk1, nu1, at1, kd1, va1, p1, p2, p3, p4⟩ := tokA h p hp tk fi nu be kd va
  have ht1 : ∀ v, v ≤ 999 → nu1 = nI v → (if 0 ≤ nu1.toInt ∧ nu1.toInt ≤ 99 then (1 : Int32) else 0) = if 0 ≤ v ∧ v < 100 then 1 else 0 := fun v hv he => by rw [he, nI_toInt (by omega)]; exact ite_iff (by omega)
  rw [x_43, p2, pb_some, x_49]
  dsimp only
  rw [x_num (it := 5) (i := 0) (by omega) (by omega) (by decide) (by omega) (told50 z0 nu1 _)]
  unfold g_X11_takesDue
  rw [hr, if_neg (show ¬ nI nd = 8 by simp (disch := omega) only [n_z1, n_z2, n_z3, n_z4, n_z5, n_z6, n_z7, n_z8, n_leL, n_leR, n_ltL, n_ltR, n_eqL, n_eqR, n_m1R, n_addL, n_addR, n_mulL, n_mulR, n_subR, n_subL, n_add, n_mul, n_neg, n_sub, n_le, n_lt, n_eq, nI_clamp, if_true, if_false, if_pos, if_neg, or_false, false_or, not_false_eq_true, not_true_eq_false]; omega)]
  rcases num p4 0 100 (by omega) with ⟨v, l, l0, l1, v1, v2, e1, e2, e3, e4, e5, e6⟩ | ⟨fx, fm⟩
  · rw [fo (by omega) e1 e3 v1 v2 ht1, m_tk1 p3 0 99 0 100 v rfl rfl (by omega) e2 e4 v1 v2, pb_some]
    dsimp only
    rw [if_neg (show ¬ (1 : Int32) = 0 by decide), e5, e6]
    obtain ⟨b2, pl2, tk2, nu2, at2, kd2, va2, q1, q2, q3, q4⟩ := tokA h (b1 + l) l1 tk1 (nI b1) nu1 (nI b1) kd1 va1
    have ht2 : ∀ v, v ≤ 999 → nu2 = nI v → (if 0 ≤ nu2.toInt ∧ nu2.toInt ≤ 99 then (1 : Int32) else 0) = if 0 ≤ v ∧ v < 100 then 1 else 0 := fun v hv he => by rw [he, nI_toInt (by omega)]; exact ite_iff (by omega)
    rw [q2, pb_some, x_49]
    dsimp only
    rw [x_num (it := 5) (i := 0 + 1) (by omega) (by omega) (by decide) (by omega) (told51 z0 nu2 _)]
    simp (disch := omega) only [n_z1, n_z2, n_z3, n_z4, n_z5, n_z6, n_z7, n_z8, n_leL, n_leR, n_ltL, n_ltR, n_eqL, n_eqR, n_m1R, n_addL, n_addR, n_mulL, n_mulR, n_subR, n_subL, n_add, n_mul, n_neg, n_sub, n_le, n_lt, n_eq, nI_clamp, if_true, if_false, if_pos, if_neg, or_false, false_or, not_false_eq_true, not_true_eq_false]
    rcases num q4 0 100 (by omega) with ⟨v', l', l0', l1', v1', v2', e1', e2', e3', e4', e5', e6'⟩ | ⟨fx, fm⟩
    · rw [fo (by omega) e1' e3' v1' v2' ht2, m_tk1 q3 0 99 0 100 v' rfl rfl (by omega) e2' e4' v1' v2', pb_some]
      dsimp only
      rw [if_neg (show ¬ (1 : Int32) = 0 by decide), e5', e6', e4, e4', nL_i, nL_i]
      obtain ⟨b3, pl3, tk3, nu3, at3, kd3, va3, u1, u2, u3, u4⟩ := tokA h (b2 + l') l1' tk2 (nI b2) nu2 (nI b2) kd2 (nL v')
      rw [u2, pb_some, x_49, u3, pb_some]
      dsimp only
      have hNU : ∀ t, upd (upd (upd NU 0 nu1) 1 nu2) 2 t = upd (upd (upd NU 0 nu1) 1 nu2) 2 t := fun _ => rfl
      have rng : ∀ v : Nat, v < 100 → 0 ≤ (nI v).toInt ∧ (nI v).toInt ≤ 99 := fun v hv => by rw [nI_toInt (by omega)]; omega
      rcases dsh u4 with ⟨b0, r1, r2, r3, r4⟩ | ⟨r1, r2⟩
      · rw [show g_X6_isItem_49b 250 48 24 20 10 1 s f 3 16 3 8 2 10 2 5 (g_X6_isItem_49 250 48 24 20 10 1 s f 3 16 3 8 2 10 2 5 (65532 + 1)) (nI 5) (nI (0 + 1 + 1)) pl3 tk3 (nI b3) nu3 (upd (upd NU 0 nu1) (0 + 1) nu2) z1 t1 z2 t2 z3 t3 z0 t0 SE = _ from x_dash r1, if_pos r2, r3, r4]
        obtain ⟨b4, pl4, tk4, nu4, at4, kd4, va4, y1, y2, y3, y4⟩ := tokA h (b3 + 1) (by omega) tk3 (nI b3) nu3 (nI b3) kd3 va3
        rw [y2, pb_some, y3, pb_some]
        dsimp only
        rw [x_106 (it := 5) (i := 2) (by omega) (by omega) (-nu4) (told52 z0 (-nu4) _)]
        refine it_due3 h (by omega) y4 65532 (fun v hv he => ?_) (fun v hv he => ?_) (a := nI v) (b := nI v') e3 e3' (rng v v2) (rng v' v2') hz hnd hr hRS
        · have hneg : (-nu4).toInt = -(v : Int) := by rw [he, Int32.toInt_neg, nI_toInt (by omega), Int.bmod_eq_of_le (by omega) (by omega)]
          rw [hneg]
          exact ite_iff (by omega)
        · have hneg : (-nu4).toInt = -(v : Int) := by rw [he, Int32.toInt_neg, nI_toInt (by omega), Int.bmod_eq_of_le (by omega) (by omega)]
          refine ⟨?_, by omega, by omega⟩
          rw [he, Int32.neg_mul, Int32.one_mul]
      · rw [show g_X6_isItem_49b 250 48 24 20 10 1 s f 3 16 3 8 2 10 2 5 (g_X6_isItem_49 250 48 24 20 10 1 s f 3 16 3 8 2 10 2 5 (65532 + 1)) (nI 5) (nI (0 + 1 + 1)) pl3 tk3 (nI b3) nu3 (upd (upd NU 0 nu1) (0 + 1) nu2) z1 t1 z2 t2 z3 t3 z0 t0 SE = _ from x_nodash r1 (told52 z0 nu3 _), if_neg r2]
        refine it_due3 h (by omega) u4 65532 (fun v hv he => ?_) (fun v hv he => ?_) (a := nI v) (b := nI v') e3 e3' (rng v v2) (rng v' v2') hz hnd hr hRS
        · rw [he, nI_toInt (by omega)]
          exact ite_iff (by omega)
        · rw [he, Int32.one_mul, nI_toInt (by omega)]
          exact ⟨rfl, by omega, by omega⟩
    · rw [ff fx ht2, m_tk0 q3 0 99 0 100 rfl rfl fm, pb_some]
      dsimp only
      rw [if_pos rfl]
      exact Or.inl ⟨b2, _, _, q4.2.2.1, rfl, rfl, rfl, rfl⟩
  · rw [ff fx ht1, m_tk0 p3 0 99 0 100 rfl rfl fm, pb_some]
    dsimp only
    rw [if_pos rfl]
    exact Or.inl ⟨b1, _, _, p4.2.2.1, rfl, rfl, rfl, rfl⟩
end
/-! STEPS: read, item by item -/
section
variable {c f g : Nat → Int32} {n : Nat} {s s' : Int32} {s4 : Int32} {c4 SK w0 : Nat → Int32} {z1 z2 z3 z0 : Int32} {t1 t2 t3 t0 SE rd : Nat → Int32}
/-- the reference's item of a word -/
def MI (s' : Int32) (g : Nat → Int32) (k : Nat) (at_ be kd : Int32) (va : Int64) (rd : Nat → Int32) : Option RM6 :=
  if k = 0 then g_X11_takesPut s' g 0 at_ be kd va rd else if k = 1 then g_X11_takesPut s' g 1 at_ be kd va rd else if k = 2 then g_X11_takesPut s' g 2 at_ be kd va rd else if k = 3 then g_X11_takesPerson s' g at_ be kd va rd else if k = 4 then g_X11_takesTalk s' g at_ be kd va rd else if k = 5 then g_X11_takesDue s' g at_ be kd va rd else g_X11_takesSight s' g at_ be kd va rd
theorem told_0 (z a p : Int32) : g_X9_isAsTold z (nI 0) (nI 0) a 0 = some (if ((1 : Nat) : Int) ≤ a.toInt ∧ a.toInt < ((5 : Nat) : Int) then 1 else 0) := by
  rw [show nI 0 = 0 from rfl, x_told0]
  exact congrArg some (ite_iff (by omega))
theorem told_1 (z a p : Int32) : g_X9_isAsTold z (nI 1) (nI 0) a 0 = some (if ((0 : Nat) : Int) ≤ a.toInt ∧ a.toInt < ((2 : Nat) : Int) then 1 else 0) := by
  rw [show nI 1 = 1 from rfl, show nI 0 = 0 from rfl, x_told1]
  exact congrArg some (ite_iff (by omega))
theorem told_2 (z a p : Int32) : g_X9_isAsTold z (nI 2) (nI 0) a 0 = some (if ((0 : Nat) : Int) ≤ a.toInt ∧ a.toInt < ((241 : Nat) : Int) then 1 else 0) := by
  rw [show nI 2 = 2 from rfl, show nI 0 = 0 from rfl, x_told2]
  exact congrArg some (ite_iff (by omega))
theorem it_all (h : TXD c f g n s s') {p b : Nat} (hp : p ≤ n) (hb : b ≤ n) {k : Nat} (hk : k < 7) (tk nu kd : Int32) (va : Int64) (NU : Nat → Int32) (hRS : RS z0 z1 z2 z3 s4 t0 t1 t2 t3 c4 SE SK (mrg rd w0)) :
    IRes f n s p s4 c4 SK w0 (g_X6_isItem_16 250 48 24 20 10 1 s f 3 16 3 8 2 10 2 5 (nI k) (nI p) tk (nI b) nu NU z1 t1 z2 t2 z3 t3 z0 t0 SE) (MI s' g k (nI p) (nI b) kd va rd) := by
  have hRS' := hRS
  obtain ⟨np, nt, nd, ns, nr, hG, hC⟩ := hRS'
  have hbd := hG.1
  obtain ⟨⟨c0, c1, c2, c3, _⟩, _⟩ := hC
  obtain ⟨w3, w4, w5, w6, _⟩ := hG.2.1
  rw [mrg_lt _ _ (by omega)] at w3 w4 w5 w6
  have fail : ∀ X M, X = some (0, nI p, tk, nI b, nu, NU, z1, t1, z2, t2, z3, t3, z0, t0, SE) → M = some (0, nI p, nI b, kd, va, rd) → IRes f n s p s4 c4 SK w0 X M := fun X M hX hM => Or.inl ⟨b, _, _, hb, hX, rfl, hM, rfl⟩
  unfold g_X6_isItem_16 MI
  rcases (show k = 0 ∨ k = 1 ∨ k = 2 ∨ k = 3 ∨ k = 4 ∨ k = 5 ∨ k = 6 by omega) with e | e | e | e | e | e | e <;> subst e
  · rw [if_neg (show ¬ nI 0 = -1 by decide), if_pos (show nI 0 < 3 by decide), if_pos rfl]
    exact it_put h hp (k := 0) (lo := 1) (hE := 5) (by omega) (by omega) (fun a => told_0 z0 a 0) (by decide) 1 4 rfl rfl tk (nI b) nu (nI b) kd va NU rfl (fun v a b => ⟨fun _ => by omega, fun q => by omega, fun q => by omega⟩) hRS
  · rw [if_neg (show ¬ nI 1 = -1 by decide), if_pos (show nI 1 < 3 by decide), if_neg (by omega), if_pos rfl]
    exact it_put h hp (k := 1) (lo := 0) (hE := 2) (by omega) (by omega) (fun a => told_1 z0 a 0) (by decide) 0 1 rfl rfl tk (nI b) nu (nI b) kd va NU rfl (fun v a b => ⟨fun q => by omega, fun _ => by omega, fun q => by omega⟩) hRS
  · rw [if_neg (show ¬ nI 2 = -1 by decide), if_pos (show nI 2 < 3 by decide), if_neg (by omega), if_neg (by omega), if_pos rfl]
    exact it_put h hp (k := 2) (lo := 0) (hE := 241) (by omega) (by omega) (fun a => told_2 z0 a 0) (by decide) 0 240 rfl rfl tk (nI b) nu (nI b) kd va NU rfl (fun v a b => ⟨fun q => by omega, fun q => by omega, fun _ => by omega⟩) hRS
  · rw [if_neg (show ¬ nI 3 = -1 by decide), if_neg (show ¬ nI 3 < 3 by decide), show g_X9_rowsOf (nI 3) = some 3 from rfl, pb_some, if_neg (show ¬ (3 : Nat) = 0 by decide), if_neg (show ¬ (3 : Nat) = 1 by decide), if_neg (show ¬ (3 : Nat) = 2 by decide), if_pos (show (3 : Nat) = 3 from rfl), if_neg (by omega), if_neg (by omega), if_neg (by omega), if_pos rfl, p_fullE c0 (L := 5) (lim := 5) rfl (by omega) (by omega), pb_some]
    by_cases q : 5 ≤ np
    · rw [if_pos q, if_neg (show ¬ (1 : Int32) = 0 by decide)]
      refine fail _ _ rfl ?_
      unfold g_X11_takesPerson
      rw [w3, show np = 5 by omega, if_pos (show nI 5 = 5 from rfl)]
    · rw [if_neg q, if_pos rfl]
      exact it_person h hp tk (nI b) nu (nI b) kd va NU c0 (by omega) w3 hRS
  · rw [if_neg (show ¬ nI 4 = -1 by decide), if_neg (show ¬ nI 4 < 3 by decide), show g_X9_rowsOf (nI 4) = some 0 from rfl, pb_some, if_pos (show (0 : Nat) = 0 from rfl), if_neg (by omega), if_neg (by omega), if_neg (by omega), if_neg (by omega), if_pos rfl, p_fullE c1 (L := 16) (lim := 16) rfl (by omega) (by omega), pb_some]
    by_cases q : 16 ≤ nt
    · rw [if_pos q, if_neg (show ¬ (1 : Int32) = 0 by decide)]
      refine fail _ _ rfl ?_
      unfold g_X11_takesTalk
      rw [w4, show nt = 16 by omega, if_pos (show nI 16 = 16 from rfl)]
    · rw [if_neg q, if_pos rfl]
      exact it_talk h hp tk (nI b) nu (nI b) kd va NU c0 hbd.1 w3 c1 (by omega) w4 hRS
  · rw [if_neg (show ¬ nI 5 = -1 by decide), if_neg (show ¬ nI 5 < 3 by decide), show g_X9_rowsOf (nI 5) = some 1 from rfl, pb_some, if_neg (show ¬ (1 : Nat) = 0 by decide), if_pos (show (1 : Nat) = 1 from rfl), if_neg (by omega), if_neg (by omega), if_neg (by omega), if_neg (by omega), if_neg (by omega), if_pos rfl, p_fullE c2 (L := 8) (lim := 8) rfl (by omega) (by omega), pb_some]
    by_cases q : 8 ≤ nd
    · rw [if_pos q, if_neg (show ¬ (1 : Int32) = 0 by decide)]
      refine fail _ _ rfl ?_
      unfold g_X11_takesDue
      rw [w5, show nd = 8 by omega, if_pos (show nI 8 = 8 from rfl)]
    · rw [if_neg q, if_pos rfl]
      exact it_due h hp tk (nI b) nu (nI b) kd va NU c2 (by omega) w5 hRS
  · rw [if_neg (show ¬ nI 6 = -1 by decide), if_neg (show ¬ nI 6 < 3 by decide), show g_X9_rowsOf (nI 6) = some 2 from rfl, pb_some, if_neg (show ¬ (2 : Nat) = 0 by decide), if_neg (show ¬ (2 : Nat) = 1 by decide), if_pos (show (2 : Nat) = 2 from rfl), if_neg (by omega), if_neg (by omega), if_neg (by omega), if_neg (by omega), if_neg (by omega), if_neg (by omega), p_fullE c3 (L := 10) (lim := 10) rfl (by omega) (by omega), pb_some]
    by_cases q : 10 ≤ ns
    · rw [if_pos q, if_neg (show ¬ (1 : Int32) = 0 by decide)]
      refine fail _ _ rfl ?_
      unfold g_X11_takesSight
      rw [w6, show ns = 10 by omega, if_pos (show nI 10 = 10 from rfl)]
    · rw [if_neg q, if_pos rfl]
      exact it_sight h hp tk (nI b) nu (nI b) kd va NU c3 (by omega) w6 hRS
end
/-! STEPS: read, whole -/
theorem m_257 {s' : Int32} {g w9 : Nat → Int32} {k91 : Int32 → Int32 → Int32 → Int32 → Int64 → (Nat → Int32) → Option RM6} {x at_ be kd : Int32} {va : Int64} {rd : Nat → Int32} : g_X11_takesAll_257 s' g w9 k91 x at_ be kd va rd = some (-1, at_, be, kd, va, rd) := by
  unfold g_X11_takesAll_257 g_X11_takesAll_258
  rw [if_pos rfl]
theorem m_253 {s' : Int32} {g w9 : Nat → Int32} {k91 : Int32 → Int32 → Int32 → Int32 → Int64 → (Nat → Int32) → Option RM6} {x at_ be kd : Int32} {va : Int64} {rd : Nat → Int32} : g_X11_takesAll_253 s' g w9 k91 x at_ be kd va rd = (g_X11_next s' g at_ be kd va).bind fun v3 => k91 (x + 1) v3.1 v3.2.1 v3.2.2.1 v3.2.2.2 rd := by
  unfold g_X11_takesAll_253 g_X11_takesAll_258
  rw [if_neg (by decide)]
theorem l_wh : (198260 : Int64) = nL (wh 0) ∧ (20429043 : Int64) = nL (wh 1) ∧ (2212 : Int64) = nL (wh 2) ∧ (542723566 : Int64) = nL (wh 3) ∧ (656779 : Int64) = nL (wh 4) ∧ (4773 : Int64) = nL (wh 5) ∧ (20225300 : Int64) = nL (wh 6) :=
  ⟨congrArg nL (show 198260 = wh 0 by decide), congrArg nL (show 20429043 = wh 1 by decide), congrArg nL (show 2212 = wh 2 by decide), congrArg nL (show 542723566 = wh 3 by decide), congrArg nL (show 656779 = wh 4 by decide), congrArg nL (show 4773 = wh 5 by decide), congrArg nL (show 20225300 = wh 6 by decide)⟩
theorem wh_ne {j k : Nat} (hj : j < 7) (hk : k < 7) (h : k ≠ j) : ¬ nL (wh k) = nL (wh j) := by
  have q : ∀ j k : Fin 7, k ≠ j → wh k.val ≠ wh j.val := by decide
  have h1 := (w_fin hj).2.2.1
  have h2 := (w_fin hk).2.2.1
  rw [nL_eq (by omega) (by omega)]
  exact q ⟨j, hj⟩ ⟨k, hk⟩ (fun e => h (congrArg Fin.val e))
theorem m_91 {s' : Int32} {g w9 : Nat → Int32} {z : Nat} {x at_ be kd : Int32} {va : Int64} {rd : Nat → Int32} (hk1 : kd = 1) {k : Nat} (hk : k < 7) (hv : va = nL (wh k)) :
    g_X11_takesAll_91 s' g w9 (z + 1) x at_ be kd va rd = (MI s' g k at_ be kd va rd).bind fun v => if v.1 = 0 then some (-1, v.2.1, v.2.2.1, v.2.2.2.1, v.2.2.2.2.1, v.2.2.2.2.2) else (g_X11_next s' g v.2.1 v.2.2.1 v.2.2.2.1 v.2.2.2.2.1).bind fun v3 => g_X11_takesAll_91 s' g w9 z (x + 1) v3.1 v3.2.1 v3.2.2.1 v3.2.2.2 v.2.2.2.2.2 := by
  obtain ⟨l0, l1, l2, l3, l4, l5, l6⟩ := l_wh
  rw [g_X11_takesAll_91]
  unfold g_X11_takesAll_91b MI
  rw [if_neg (show ¬ kd = 0 by rw [hk1]; decide), if_pos hk1]
  simp only [lg_eq0, m_257, m_253]
  rw [l0, l1, l2, l3, l4, l5, l6, hv]
  rcases (show k = 0 ∨ k = 1 ∨ k = 2 ∨ k = 3 ∨ k = 4 ∨ k = 5 ∨ k = 6 by omega) with e | e | e | e | e | e | e <;> subst e
  · rw [if_pos rfl, if_pos rfl]
  · rw [if_neg (wh_ne (by omega) (by omega) (by omega)), if_pos rfl, if_neg (by omega), if_pos rfl]
  · rw [if_neg (wh_ne (j := 0) (k := 2) (by omega) (by omega) (by omega)), if_neg (wh_ne (j := 1) (k := 2) (by omega) (by omega) (by omega)), if_pos rfl, if_neg (by omega), if_neg (by omega), if_pos rfl]
  · rw [if_neg (wh_ne (j := 0) (k := 3) (by omega) (by omega) (by omega)), if_neg (wh_ne (j := 1) (k := 3) (by omega) (by omega) (by omega)), if_neg (wh_ne (j := 2) (k := 3) (by omega) (by omega) (by omega)), if_pos rfl, if_neg (by omega), if_neg (by omega), if_neg (by omega), if_pos rfl]
  · rw [if_neg (wh_ne (j := 0) (k := 4) (by omega) (by omega) (by omega)), if_neg (wh_ne (j := 1) (k := 4) (by omega) (by omega) (by omega)), if_neg (wh_ne (j := 2) (k := 4) (by omega) (by omega) (by omega)), if_neg (wh_ne (j := 3) (k := 4) (by omega) (by omega) (by omega)), if_pos rfl, if_neg (by omega), if_neg (by omega), if_neg (by omega), if_neg (by omega), if_pos rfl]
  · rw [if_neg (wh_ne (j := 0) (k := 5) (by omega) (by omega) (by omega)), if_neg (wh_ne (j := 1) (k := 5) (by omega) (by omega) (by omega)), if_neg (wh_ne (j := 2) (k := 5) (by omega) (by omega) (by omega)), if_neg (wh_ne (j := 3) (k := 5) (by omega) (by omega) (by omega)), if_neg (wh_ne (j := 4) (k := 5) (by omega) (by omega) (by omega)), if_pos rfl, if_neg (by omega), if_neg (by omega), if_neg (by omega), if_neg (by omega), if_neg (by omega), if_pos rfl]
  · rw [if_neg (wh_ne (j := 0) (k := 6) (by omega) (by omega) (by omega)), if_neg (wh_ne (j := 1) (k := 6) (by omega) (by omega) (by omega)), if_neg (wh_ne (j := 2) (k := 6) (by omega) (by omega) (by omega)), if_neg (wh_ne (j := 3) (k := 6) (by omega) (by omega) (by omega)), if_neg (wh_ne (j := 4) (k := 6) (by omega) (by omega) (by omega)), if_neg (wh_ne (j := 5) (k := 6) (by omega) (by omega) (by omega)), if_pos rfl, if_neg (by omega), if_neg (by omega), if_neg (by omega), if_neg (by omega), if_neg (by omega), if_neg (by omega)]
theorem m_91x {s' : Int32} {g w9 : Nat → Int32} {z : Nat} {x at_ be kd : Int32} {va : Int64} {rd : Nat → Int32} (hk0 : kd ≠ 0) (hv : kd ≠ 1 ∨ ∀ k, k < 7 → va ≠ nL (wh k)) :
    g_X11_takesAll_91 s' g w9 (z + 1) x at_ be kd va rd = some (-1, at_, be, kd, va, rd) := by
  obtain ⟨l0, l1, l2, l3, l4, l5, l6⟩ := l_wh
  rw [g_X11_takesAll_91]
  unfold g_X11_takesAll_91b
  simp only [lg_eq0, m_257, m_253]
  rw [l0, l1, l2, l3, l4, l5, l6, if_neg hk0]
  by_cases c1 : kd = 1
  · rcases hv with h | h
    · exact absurd c1 h
    · rw [if_pos c1, if_neg (h 0 (by omega)), if_neg (h 1 (by omega)), if_neg (h 2 (by omega)), if_neg (h 3 (by omega)), if_neg (h 4 (by omega)), if_neg (h 5 (by omega)), if_neg (h 6 (by omega))]
  · rw [if_neg c1]
section
variable {c f g : Nat → Int32} {n : Nat} {s s' : Int32} {s4 : Int32} {c4 SK w0 w9 : Nat → Int32}
theorem rd_loop (h : TXD c f g n s s') : ∀ (k z i b : Nat) (pl tk nu at_ kd : Int32) (va : Int64) (NU : Nat → Int32) (z1 z2 z3 z0 : Int32) (t1 t2 t3 t0 SE rd : Nat → Int32), n + 1 - b = k → k < z → i ≤ b → TR c n b pl tk (nI b) nu at_ (nI b) kd va → RS z0 z1 z2 z3 s4 t0 t1 t2 t3 c4 SE SK (mrg rd w0) →
    ∃ x m, g_X6_readItems_11 250 48 24 20 10 1 250 s f 3 16 3 8 2 10 2 5 z (nI i) pl tk (nI b) nu NU z1 t1 z2 t2 z3 t3 z0 t0 SE = some x ∧ g_X11_takesAll_91 s' g w9 z (nI i) at_ (nI b) kd va rd = some m ∧
      ((∃ j, j ≤ 250 ∧ x.1 = nI j ∧ m.1 = nI j ∧ RS x.2.2.2.2.2.2.2.2.2.2.2.2.1 x.2.2.2.2.2.2.1 x.2.2.2.2.2.2.2.2.1 x.2.2.2.2.2.2.2.2.2.2.1 s4 x.2.2.2.2.2.2.2.2.2.2.2.2.2.1 x.2.2.2.2.2.2.2.1 x.2.2.2.2.2.2.2.2.2.1 x.2.2.2.2.2.2.2.2.2.2.2.1 c4 x.2.2.2.2.2.2.2.2.2.2.2.2.2.2 SK (mrg m.2.2.2.2.2 w0)) ∨ (∃ b2, b2 ≤ n ∧ x.1 = -10 - nI b2 ∧ m.1 = -1 ∧ m.2.2.1 = nI b2))
  | _, 0, _, _, _, _, _, _, _, _, _, _, _, _, _, _, _, _, _, _, _, _, h, _, _, _ => absurd h (Nat.not_lt_zero _)
  | k, z + 1, i, b, pl, tk, nu, at_, kd, va, NU, z1, z2, z3, z0, t1, t2, t3, t0, SE, rd, h1, h2, h3, h4, h5 => by
    have hn := h.2.2.1
    have hb := h4.2.2.1
    rw [g_X6_readItems_11]
    unfold g_X6_readItems_11b g_X7_limit
    have bad : tk ≠ 0 → tk ≠ 1 → kd ≠ 0 → kd ≠ 1 → b < n → ∃ x m, (if tk = 0 then some (nI i, pl, tk, nI b, nu, NU, z1, t1, z2, t2, z3, t3, z0, t0, SE) else (some (250 : Int32)).bind fun v3 => if v3 ≤ nI i then some (nI i, pl, tk, nI b, nu, NU, z1, t1, z2, t2, z3, t3, z0, t0, SE) else (g_X6_isItem 250 48 24 20 10 1 s f 3 16 3 8 2 10 2 5 pl tk (nI b) nu NU z1 t1 z2 t2 z3 t3 z0 t0 SE).bind fun v5 => if v5.1 = 0 then some (-10 - v5.2.2.2.1, v5.2.1, v5.2.2.1, v5.2.2.2.1, v5.2.2.2.2.1, v5.2.2.2.2.2.1, v5.2.2.2.2.2.2.1, v5.2.2.2.2.2.2.2.1, v5.2.2.2.2.2.2.2.2.1, v5.2.2.2.2.2.2.2.2.2.1, v5.2.2.2.2.2.2.2.2.2.2.1, v5.2.2.2.2.2.2.2.2.2.2.2.1, v5.2.2.2.2.2.2.2.2.2.2.2.2.1, v5.2.2.2.2.2.2.2.2.2.2.2.2.2.1, v5.2.2.2.2.2.2.2.2.2.2.2.2.2.2) else g_X6_readItems_11 250 48 24 20 10 1 250 s f 3 16 3 8 2 10 2 5 z (nI i + 1) v5.2.1 v5.2.2.1 v5.2.2.2.1 v5.2.2.2.2.1 v5.2.2.2.2.2.1 v5.2.2.2.2.2.2.1 v5.2.2.2.2.2.2.2.1 v5.2.2.2.2.2.2.2.2.1 v5.2.2.2.2.2.2.2.2.2.1 v5.2.2.2.2.2.2.2.2.2.2.1 v5.2.2.2.2.2.2.2.2.2.2.2.1 v5.2.2.2.2.2.2.2.2.2.2.2.2.1 v5.2.2.2.2.2.2.2.2.2.2.2.2.2.1 v5.2.2.2.2.2.2.2.2.2.2.2.2.2.2) = some x ∧ g_X11_takesAll_91 s' g w9 (z + 1) (nI i) at_ (nI b) kd va rd = some m ∧
        ((∃ j, j ≤ 250 ∧ x.1 = nI j ∧ m.1 = nI j ∧ RS x.2.2.2.2.2.2.2.2.2.2.2.2.1 x.2.2.2.2.2.2.1 x.2.2.2.2.2.2.2.2.1 x.2.2.2.2.2.2.2.2.2.2.1 s4 x.2.2.2.2.2.2.2.2.2.2.2.2.2.1 x.2.2.2.2.2.2.2.1 x.2.2.2.2.2.2.2.2.2.1 x.2.2.2.2.2.2.2.2.2.2.2.1 c4 x.2.2.2.2.2.2.2.2.2.2.2.2.2.2 SK (mrg m.2.2.2.2.2 w0)) ∨ (∃ b2, b2 ≤ n ∧ x.1 = -10 - nI b2 ∧ m.1 = -1 ∧ m.2.2.1 = nI b2)) := by
      intro a1 a2 a3 a4 a5
      rw [if_neg a1, pb_some, if_neg (show ¬ 250 ≤ nI i by simp (disch := omega) only [n_z1, n_z2, n_z3, n_z4, n_z5, n_z6, n_z7, n_z8, n_leL, n_leR, n_ltL, n_ltR, n_eqL, n_eqR, n_m1R, n_addL, n_addR, n_mulL, n_mulR, n_subR, n_subL, n_add, n_mul, n_neg, n_sub, n_le, n_lt, n_eq, nI_clamp, if_true, if_false, if_pos, if_neg, or_false, false_or, not_false_eq_true, not_true_eq_false]; omega), m_91x a3 (Or.inl a4)]
      unfold g_X6_isItem g_X6_isItem_16
      rw [if_neg a2, if_pos rfl, pb_some, if_pos rfl]
      exact ⟨_, _, rfl, rfl, Or.inr ⟨b, hb, rfl, rfl, rfl⟩⟩
    rcases h4.2.2.2 with ⟨e1, e2⟩ | ⟨e0, e1, e2, l, l0, l1, l2, l3, l4, l5⟩ | ⟨e0, e1, e2, _⟩ | ⟨e0, e1, e2, _⟩ | ⟨e0, e1, e2, _⟩ | ⟨e0, e1, e2, _⟩ | ⟨e0, e1, e2⟩
    · rw [if_pos e1, g_X11_takesAll_91]
      unfold g_X11_takesAll_91b
      rw [if_pos e2]
      exact ⟨_, _, rfl, rfl, Or.inl ⟨i, by omega, rfl, rfl, h5⟩⟩
    · rw [if_neg (show ¬ tk = 0 by rw [e1]; decide), pb_some, if_neg (show ¬ 250 ≤ nI i by simp (disch := omega) only [n_z1, n_z2, n_z3, n_z4, n_z5, n_z6, n_z7, n_z8, n_leL, n_leR, n_ltL, n_ltR, n_eqL, n_eqR, n_m1R, n_addL, n_addR, n_mulL, n_mulR, n_subR, n_subL, n_add, n_mul, n_neg, n_sub, n_le, n_lt, n_eq, nI_clamp, if_true, if_false, if_pos, if_neg, or_false, false_or, not_false_eq_true, not_true_eq_false]; omega)]
      unfold g_X6_isItem
      rw [if_pos e1, l2, x_item h.1 hn h.2.2.2.1 l4 l1, pb_some]
      rcases itk_cases (wl c b l) with ⟨q, q1, q2, q3⟩ | ⟨q1, q2⟩
      · rw [q3, m_91 e2 q1 (by rw [l5, q2]), l3]
        rcases it_all (SK := SK) (s4 := s4) (c4 := c4) (w0 := w0) h l1 hb q1 tk nu kd va NU h5 with ⟨b2, r, m, k0, k1, k2, k3, k4⟩ | ⟨p', tk', fi', nu', NU', y1, u1, y2, u2, y3, u3, y0, u0, SE', be', kd', va', rd', k1, k2, k3, k4, k5⟩
        · rw [k1, k3, pb_some, pb_some, if_pos (show (0 : Int32) = 0 from rfl), if_pos (show (0 : Int32) = 0 from rfl)]
          exact ⟨_, _, rfl, rfl, Or.inr ⟨b2, k0, by show -10 - r.2.2.1 = _; rw [k2], rfl, k4⟩⟩
        · rw [k3, k4, pb_some]
          dsimp only
          rw [if_neg (show ¬ (1 : Int32) = 0 by decide)]
          obtain ⟨b3, pl3, tk3, nu3, at3, kd3, va3, v1, v2, v3, v4⟩ := tokA h p' k2 tk' fi' nu' be' kd' va'
          rw [v2, v3, pb_some, pb_some, pb_some]
          dsimp only
          rw [if_neg (show ¬ (1 : Int32) = 0 by decide), n_addR]
          exact rd_loop h (n + 1 - b3) z (i + 1) b3 pl3 tk3 nu3 at3 kd3 va3 NU' y1 y2 y3 y0 u1 u2 u3 u0 SE' rd' rfl (by omega) (by omega) v4 k5
      · rw [q2, m_91x (by rw [e2]; decide) (Or.inr (fun k hk => by rw [l5]; exact q1 k hk))]
        unfold g_X6_isItem_16
        rw [if_pos rfl, pb_some, if_pos rfl]
        exact ⟨_, _, rfl, rfl, Or.inr ⟨b, hb, rfl, rfl, rfl⟩⟩
    · exact bad (by rw [e1]; decide) (by rw [e1]; decide) (by rw [e2]; decide) (by rw [e2]; decide) e0
    · exact bad (by rw [e1]; decide) (by rw [e1]; decide) (by rw [e2]; decide) (by rw [e2]; decide) e0
    · exact bad (by rw [e1]; decide) (by rw [e1]; decide) (by rw [e2]; decide) (by rw [e2]; decide) e0
    · exact bad (by rw [e1]; decide) (by rw [e1]; decide) (by rw [e2]; decide) (by rw [e2]; decide) e0
    · exact bad (by rw [e1]; decide) (by rw [e1]; decide) (by rw [e2]; decide) (by rw [e2]; decide) e0
theorem m_ta2 (w : Nat → Int32) (at_ be kd : Int32) (va : Int64) : ∀ (k z j : Nat) (rd : Nat → Int32), 155 - j = k → k < z → j ≤ 155 → (∀ i, i < j → rd i = if i < 13 then w i else 0) → ∃ rd', g_X11_takesAll_2 s' g w z (nI j) at_ be kd va rd = g_X11_takesAll_61 s' g w zF 3 at_ be kd va (upd (upd (upd rd' 0 1) 1 0) 2 60) ∧ ∀ i, i < 155 → rd' i = if i < 13 then w i else 0
  | _, 0, _, _, _, h, _, _ => absurd h (Nat.not_lt_zero _)
  | k, z + 1, j, rd, h1, h2, h3, h4 => by
    rw [g_X11_takesAll_2]
    unfold g_X11_takesAll_2b g_X11_takesAll_30
    by_cases e : 155 ≤ j
    · rw [if_pos (show 155 ≤ nI j by simp (disch := omega) only [n_z1, n_z2, n_z3, n_z4, n_z5, n_z6, n_z7, n_z8, n_leL, n_leR, n_ltL, n_ltR, n_eqL, n_eqR, n_m1R, n_addL, n_addR, n_mulL, n_mulR, n_subR, n_subL, n_add, n_mul, n_neg, n_sub, n_le, n_lt, n_eq, nI_clamp, if_true, if_false, if_pos, if_neg, or_false, false_or, not_false_eq_true, not_true_eq_false]; omega)]
      exact ⟨rd, rfl, fun i hi => h4 i (by omega)⟩
    · rw [if_neg (show ¬ 155 ≤ nI j by simp (disch := omega) only [n_z1, n_z2, n_z3, n_z4, n_z5, n_z6, n_z7, n_z8, n_leL, n_leR, n_ltL, n_ltR, n_eqL, n_eqR, n_m1R, n_addL, n_addR, n_mulL, n_mulR, n_subR, n_subL, n_add, n_mul, n_neg, n_sub, n_le, n_lt, n_eq, nI_clamp, if_true, if_false, if_pos, if_neg, or_false, false_or, not_false_eq_true, not_true_eq_false]; omega)]
      simp (disch := omega) only [n_z1, n_z2, n_z3, n_z4, n_z5, n_z6, n_z7, n_z8, n_leL, n_leR, n_ltL, n_ltR, n_eqL, n_eqR, n_m1R, n_addL, n_addR, n_mulL, n_mulR, n_subR, n_subL, n_add, n_mul, n_neg, n_sub, n_le, n_lt, n_eq, nI_clamp, if_true, if_false, if_pos, if_neg, or_false, false_or, not_false_eq_true, not_true_eq_false]
      have ih := fun rd h => m_ta2 w at_ be kd va (k - 1) z (j + 1) rd (by omega) (by omega) (by omega) h
      by_cases e2 : 13 ≤ j
      · rw [if_pos e2]
        refine ih _ (fun i hi => ?_)
        rw [upd_eq]
        by_cases c1 : i = j
        · rw [if_pos c1, if_neg (by omega)]
        · rw [if_neg c1]; exact h4 i (by omega)
      · rw [if_neg e2]
        refine ih _ (fun i hi => ?_)
        rw [upd_eq]
        by_cases c1 : i = j
        · rw [if_pos c1, if_pos (by omega), c1]
        · rw [if_neg c1]; exact h4 i (by omega)
theorem m_ta61 (w : Nat → Int32) (at_ be kd : Int32) (va : Int64) : ∀ (k z j : Nat) (rd : Nat → Int32), 7 - j = k → k < z → j ≤ 7 → ∃ rd', g_X11_takesAll_61 s' g w z (nI j) at_ be kd va rd = ((g_X11_next s' g 0 be kd va).bind fun v1 => g_X11_takesAll_91 s' g w zF 0 v1.1 v1.2.1 v1.2.2.1 v1.2.2.2 rd') ∧ ∀ i, rd' i = if j ≤ i ∧ i < 7 then 0 else rd i
  | _, 0, _, _, _, h, _ => absurd h (Nat.not_lt_zero _)
  | k, z + 1, j, rd, h1, h2, h3 => by
    rw [g_X11_takesAll_61]
    unfold g_X11_takesAll_61b
    by_cases e : 7 ≤ j
    · rw [if_pos (show 6 < nI j by simp (disch := omega) only [n_z1, n_z2, n_z3, n_z4, n_z5, n_z6, n_z7, n_z8, n_leL, n_leR, n_ltL, n_ltR, n_eqL, n_eqR, n_m1R, n_addL, n_addR, n_mulL, n_mulR, n_subR, n_subL, n_add, n_mul, n_neg, n_sub, n_le, n_lt, n_eq, nI_clamp, if_true, if_false, if_pos, if_neg, or_false, false_or, not_false_eq_true, not_true_eq_false]; omega)]
      exact ⟨rd, rfl, fun i => by rw [if_neg (by omega)]⟩
    · rw [if_neg (show ¬ 6 < nI j by simp (disch := omega) only [n_z1, n_z2, n_z3, n_z4, n_z5, n_z6, n_z7, n_z8, n_leL, n_leR, n_ltL, n_ltR, n_eqL, n_eqR, n_m1R, n_addL, n_addR, n_mulL, n_mulR, n_subR, n_subL, n_add, n_mul, n_neg, n_sub, n_le, n_lt, n_eq, nI_clamp, if_true, if_false, if_pos, if_neg, or_false, false_or, not_false_eq_true, not_true_eq_false]; omega)]
      simp (disch := omega) only [n_z1, n_z2, n_z3, n_z4, n_z5, n_z6, n_z7, n_z8, n_leL, n_leR, n_ltL, n_ltR, n_eqL, n_eqR, n_m1R, n_addL, n_addR, n_mulL, n_mulR, n_subR, n_subL, n_add, n_mul, n_neg, n_sub, n_le, n_lt, n_eq, nI_clamp, if_true, if_false, if_pos, if_neg, or_false, false_or, not_false_eq_true, not_true_eq_false]
      obtain ⟨rd', q1, q2⟩ := m_ta61 w at_ be kd va (k - 1) z (j + 1) (upd rd j 0) (by omega) (by omega) (by omega)
      refine ⟨rd', q1, fun i => ?_⟩
      rw [q2, upd_eq]
      by_cases c1 : i = j
      · rw [if_neg (by omega), if_pos c1, if_pos (by omega)]
      · by_cases c2 : j ≤ i ∧ i < 7
        · rw [if_pos (by omega), if_pos c2]
        · rw [if_neg (by omega), if_neg c1, if_neg c2]
theorem m_rd19 (x at_ be kd : Int32) (va : Int64) (rd : Nat → Int32) : ∀ (k z j : Nat) (w : Nat → Int32), 115 - j = k → k < z → j ≤ 115 → ∃ w', g_X11_read_19 s' g z x (nI j) at_ be kd va rd w = some (x, at_, be, kd, va, rd, w') ∧ ∀ i, w' i = if j ≤ i ∧ i < 115 then rd i else w i
  | _, 0, _, _, _, h, _ => absurd h (Nat.not_lt_zero _)
  | k, z + 1, j, w, h1, h2, h3 => by
    rw [g_X11_read_19]
    unfold g_X11_read_19b
    by_cases e : 115 ≤ j
    · rw [if_pos (show 115 ≤ nI j by simp (disch := omega) only [n_z1, n_z2, n_z3, n_z4, n_z5, n_z6, n_z7, n_z8, n_leL, n_leR, n_ltL, n_ltR, n_eqL, n_eqR, n_m1R, n_addL, n_addR, n_mulL, n_mulR, n_subR, n_subL, n_add, n_mul, n_neg, n_sub, n_le, n_lt, n_eq, nI_clamp, if_true, if_false, if_pos, if_neg, or_false, false_or, not_false_eq_true, not_true_eq_false]; omega)]
      exact ⟨w, rfl, fun i => by rw [if_neg (by omega)]⟩
    · rw [if_neg (show ¬ 115 ≤ nI j by simp (disch := omega) only [n_z1, n_z2, n_z3, n_z4, n_z5, n_z6, n_z7, n_z8, n_leL, n_leR, n_ltL, n_ltR, n_eqL, n_eqR, n_m1R, n_addL, n_addR, n_mulL, n_mulR, n_subR, n_subL, n_add, n_mul, n_neg, n_sub, n_le, n_lt, n_eq, nI_clamp, if_true, if_false, if_pos, if_neg, or_false, false_or, not_false_eq_true, not_true_eq_false]; omega)]
      simp (disch := omega) only [n_z1, n_z2, n_z3, n_z4, n_z5, n_z6, n_z7, n_z8, n_leL, n_leR, n_ltL, n_ltR, n_eqL, n_eqR, n_m1R, n_addL, n_addR, n_mulL, n_mulR, n_subR, n_subL, n_add, n_mul, n_neg, n_sub, n_le, n_lt, n_eq, nI_clamp, if_true, if_false, if_pos, if_neg, or_false, false_or, not_false_eq_true, not_true_eq_false]
      obtain ⟨w', q1, q2⟩ := m_rd19 x at_ be kd va rd (k - 1) z (j + 1) (upd w j (rd j)) (by omega) (by omega) (by omega)
      refine ⟨w', q1, fun i => ?_⟩
      rw [q2, upd_eq]
      by_cases c1 : i = j
      · rw [if_neg (by omega), if_pos c1, if_pos (by omega), c1]
      · by_cases c2 : j ≤ i ∧ i < 115
        · rw [if_pos (by omega), if_pos c2]
        · rw [if_neg (by omega), if_neg c1, if_neg c2]
end
theorem zp_read : zstep_read Inv := by
  intro I Aa J V h _
  obtain ⟨hS, hT, hR, hI, hF, hc, hp⟩ := h
  have hS' := hS
  obtain ⟨np, nt, nd, ns, nr, hG, hC⟩ := hS
  obtain ⟨n, u1, u2, u3, u4⟩ := id hT
  have hX : TXD (Aa 14) (Aa 14) (Aa 48) n (I 10) (I 38) := ⟨u2, u3, u1, fun _ _ => rfl, fun j hj => (u4 j hj).1.symm, fun j hj => (u4 j hj).2⟩
  obtain ⟨d0, d1, d2, d3, d4, de, dk, x1, x2⟩ := x_scopy hG hC (I 5) (I 6) (I 7) (I 8) (I 9) (Aa 7) (Aa 8) (Aa 9) (Aa 10) (Aa 11) (Aa 12) (Aa 13) (w' := Aa 45) (fun j hj => rfl)
  obtain ⟨rd1, a1, a2⟩ := m_ta2 (s' := I 38) (g := Aa 48) (Aa 45) (I 42) (I 43) (I 44) V 155 zF 0 (Aa 52) rfl (by decide) (by omega) (fun i hi => by omega)
  obtain ⟨rd2, b1, b2⟩ := m_ta61 (s' := I 38) (g := Aa 48) (Aa 45) (I 42) (I 43) (I 44) V 4 zF 3 (upd (upd (upd rd1 0 1) 1 0) 2 60) rfl (by decide) (by omega)
  obtain ⟨b, pl, tk, nu, at_, kd, va, v1, v2, v3, v4⟩ := tokA hX 0 (by omega) (I 12) (I 13) (I 14) (I 43) (I 44) V
  have hrd : ∀ i, i < 115 → mrg rd2 (Aa 45) i = if i = 0 then 1 else if i = 1 then 0 else if i = 2 then 60 else if i < 7 then 0 else if i < 13 then Aa 45 i else 0 := by
    intro i hi
    rw [mrg_lt _ _ hi, b2, upd_eq, upd_eq, upd_eq]
    by_cases c0 : i = 0
    · rw [if_neg (by omega), if_neg (by omega), if_neg (by omega), if_pos c0, if_pos c0]
    · by_cases c1 : i = 1
      · rw [if_neg (by omega), if_neg (by omega), if_pos c1, if_neg c0, if_pos c1]
      · by_cases c2 : i = 2
        · rw [if_neg (by omega), if_pos c2, if_neg c0, if_neg c1, if_pos c2]
        · rw [if_neg c0, if_neg c1, if_neg c2, if_neg c2, if_neg c1, if_neg c0]
          by_cases c3 : i < 7
          · rw [if_pos (by omega), if_pos c3]
          · rw [if_neg (by omega), if_neg c3, a2 i (by omega)]
  have hge : ∀ i, 115 ≤ i → mrg rd2 (Aa 45) i = Aa 45 i := fun i hi => by unfold mrg; rw [if_neg (by omega)]
  have hRS : RS 0 0 0 0 (I 4) d0 d1 d2 d3 d4 (upd (upd (upd de 0 1) 1 0) 2 60) dk (mrg rd2 (Aa 45)) := by
    obtain ⟨np', nt', nd', ns', nr', hG', hC'⟩ := x2
    obtain ⟨⟨_, _, _, _, r5⟩, _, r3, _, _, _, _, r8⟩ := hC'
    have hb := hG'.1
    have h7 := hG'.2.1.2.2.2.2
    have h8 := hG'.2.2.2.1
    refine ⟨0, 0, 0, 0, nr', ⟨⟨by omega, by omega, by omega, by omega, hb.2.2.2.2⟩, ?_, ?_, ?_, fun p hp => by omega, fun p hp => by omega, fun p hp => by omega, fun p hp => by omega, fun r hr => ?_⟩, ⟨rfl, rfl, rfl, rfl, r5⟩, ?_, ?_, fun p hp => by omega, fun p hp => by omega, fun p hp => by omega, fun p hp => by omega, fun r hr => ?_⟩
    · rw [hrd 3 (by omega), hrd 4 (by omega), hrd 5 (by omega), hrd 6 (by omega), hrd 7 (by omega)]
      exact ⟨rfl, rfl, rfl, rfl, h7⟩
    · have e0 : mrg rd2 (Aa 45) 0 = 1 := by rw [hrd 0 (by omega)]; rfl
      have e1 : mrg rd2 (Aa 45) 1 = 0 := by rw [hrd 1 (by omega)]; rfl
      have e2 : mrg rd2 (Aa 45) 2 = 60 := by rw [hrd 2 (by omega)]; rfl
      rw [e0, e1, e2]
      decide
    · rw [hrd 8 (by omega), hrd 9 (by omega), hrd 10 (by omega), hrd 11 (by omega), hrd 12 (by omega)]
      exact h8
    · rw [hge _ (by omega)]; exact hG'.2.2.2.2.2.2.2.2 r hr
    · intro j hj
      rw [hrd j (by omega)]
      rcases (show j = 0 ∨ j = 1 ∨ j = 2 by omega) with e | e | e <;> subst e <;> rfl
    · intro j hj
      rw [hrd _ (by omega), if_neg (by omega), if_neg (by omega), if_neg (by omega), if_neg (by omega), if_pos (by omega)]
      exact r3 j hj
    · rw [hge _ (by omega)]; exact r8 r hr
  obtain ⟨x, m, k1, k2, k3⟩ := rd_loop (w9 := Aa 45) (w0 := Aa 45) hX (n + 1 - b) zF 0 b pl tk nu at_ kd va (Aa 15) 0 0 0 0 d1 d2 d3 d0 (upd (upd (upd de 0 1) 1 0) 2 60) rd2 rfl (by show _ < 65536; omega) (by omega) v4 hRS
  have X1 : g_X6_readItems 250 48 24 20 10 1 250 (I 10) (Aa 14) 3 16 3 8 2 10 2 5 (I 11) (I 12) (I 13) (I 14) (Aa 15) 0 d1 0 d2 0 d3 0 d0 (upd (upd (upd de 0 1) 1 0) 2 60) = some x := by
    unfold g_X6_readItems
    have v2' : g_X6_advance 250 1 (I 10) (Aa 14) 0 (I 12) (I 13) (I 14) = some (pl, tk, nI b, nu) := v2
    rw [v2', pb_some]
    exact k1
  have M1 : g_X11_takesAll (I 38) (Aa 48) (Aa 45) (I 42) (I 43) (I 44) V (Aa 52) = some m := by
    unfold g_X11_takesAll
    have a1' : g_X11_takesAll_2 (I 38) (Aa 48) (Aa 45) zF 0 (I 42) (I 43) (I 44) V (Aa 52) = _ := a1
    have b1' : g_X11_takesAll_61 (I 38) (Aa 48) (Aa 45) zF 3 (I 42) (I 43) (I 44) V (upd (upd (upd rd1 0 1) 1 0) 2 60) = _ := b1
    have v3' : g_X11_next (I 38) (Aa 48) 0 (I 43) (I 44) V = some (at_, nI b, kd, va) := v3
    rw [a1', b1', v3', pb_some]
    exact k2
  obtain ⟨xa, xb⟩ := x
  obtain ⟨ma, mb⟩ := m
  unfold g_X10_read g_X11_read g_X9_forget g_X7_clear
  rw [x1, pb_some]
  dsimp only
  rw [pb_some, pb_some, pb_some, pb_some, pb_some]
  dsimp only
  rw [X1, M1, pb_some, pb_some]
  dsimp only at k3 ⊢
  rcases k3 with ⟨j, j1, j2, j3, j4⟩ | ⟨b2, j1, j2, j3, j4⟩
  · rw [j2, j3, if_neg (nI_pos (show j < 2 ^ 31 by omega)), if_pos (show 0 ≤ nI j by simp (disch := omega) only [n_z1, n_z2, n_z3, n_z4, n_z5, n_z6, n_z7, n_z8, n_leL, n_leR, n_ltL, n_ltR, n_eqL, n_eqR, n_m1R, n_addL, n_addR, n_mulL, n_mulR, n_subR, n_subL, n_add, n_mul, n_neg, n_sub, n_le, n_lt, n_eq, nI_clamp, if_true, if_false, if_pos, if_neg, or_false, false_or, not_false_eq_true, not_true_eq_false]; omega)]
    obtain ⟨w', y1, y2⟩ := m_rd19 (s' := I 38) (g := Aa 48) (nI j) mb.1 mb.2.1 mb.2.2.1 mb.2.2.2.1 mb.2.2.2.2 115 zF 0 (Aa 45) rfl (by decide) (by omega)
    have y1' : g_X11_read_19 (I 38) (Aa 48) zF (nI j) 0 mb.1 mb.2.1 mb.2.2.1 mb.2.2.2.1 mb.2.2.2.2 (Aa 45) = _ := y1
    obtain ⟨np2, nt2, nd2, ns2, nr2, hG2, hC2⟩ := j4
    obtain ⟨q0, q1, q2, q3, q4, qe, qk, y3, y4⟩ := x_scopy hG2 hC2 (I 0) (I 1) (I 2) (I 3) (I 4) (Aa 0) (Aa 1) (Aa 2) (Aa 3) (Aa 4) (Aa 5) (Aa 6) (w' := w') (fun i hi => by
      rw [y2]
      unfold mrg
      by_cases c1 : i < 115
      · rw [if_pos (by omega), if_pos c1]
      · rw [if_neg (by omega), if_neg c1])
    rw [y1', y3, pb_some, p_changed, pb_some]
    exact ⟨_, _, rfl, rfl, rfl, y4, hT, hR, hI, hF, ic_chg .., cp_chg _ _ _ _⟩
  · have hneg : (-10 - nI b2).toInt = -10 - (b2 : Int) := by
      rw [z_sub (by decide) (by rw [nI_toInt (by omega)]; omega), nI_toInt (by omega)]
      rfl
    rw [j2, j3, if_pos (show (-10 - nI b2 : Int32) < 0 by rw [Int32.lt_iff_toInt_lt, hneg]; show _ < (0 : Int); omega), if_neg (show ¬ (0 : Int32) ≤ -1 by decide)]
    refine ⟨_, _, rfl, rfl, ?_, hS', hT, hR, hI, hF, hc, hp⟩
    show -10 - nI b2 = -10 - mb.2.1
    rw [j4]
/-! NUMBERS ALONE: what holds at the start holds on -/
theorem inv_start : Inv zI0 zA0 zJ0 0 := by
  refine ⟨?_, ?_, ⟨rfl, rfl, rfl⟩, ⟨⟨rfl, fun h => absurd rfl h⟩, ⟨rfl, fun h => absurd rfl h⟩⟩, ?_, ⟨fun h => absurd h (show ¬ (1 : Int32) = 0 by decide), fun h => absurd h (show ¬ (1 : Int32) = 0 by decide), fun h => absurd h (show ¬ (1 : Int32) = 0 by decide)⟩, fun h => absurd h (show ¬ (1 : Int32) = 0 by decide)⟩
  · refine ⟨0, 0, 0, 0, 0, ⟨by omega, ⟨rfl, rfl, rfl, rfl, rfl⟩, ?_, ?_, fun p hp => by omega, fun p hp => by omega, fun p hp => by omega, fun p hp => by omega, fun p hp => by omega⟩, ⟨⟨rfl, rfl, rfl, rfl, rfl⟩, ?_, ?_, fun p hp => by omega, fun p hp => by omega, fun p hp => by omega, fun p hp => by omega, fun p hp => by omega⟩⟩
    · decide
    · decide
    · intro j hj
      rcases (show j = 0 ∨ j = 1 ∨ j = 2 by omega) with e | e | e <;> subst e <;> rfl
    · intro j hj
      rcases (show j = 0 ∨ j = 1 ∨ j = 2 ∨ j = 3 ∨ j = 4 by omega) with e | e | e | e | e <;> subst e <;> rfl
  · exact ⟨0, by omega, rfl, rfl, fun j hj => by omega⟩
  · refine ⟨0, 1, ⟨by omega, fun j a b => (by show upd (fun _ => (0 : Int32)) 0 0 j = 0; rw [upd_eq, ite_self]), fun h => by omega⟩, ⟨by omega, fun j a b => ?_, fun _ => by decide⟩, rfl, rfl, rfl, fun j hj => by omega, fun j hj => ?_⟩
    · rcases (show j = 1 ∨ j = 2 ∨ j = 3 ∨ j = 4 ∨ j = 5 ∨ j = 6 ∨ j = 7 by omega) with e | e | e | e | e | e | e <;> subst e <;> rfl
    · have : j = 0 := by omega
      subst this; rfl
/-- both sides keep step: what is left is numbers -/
theorem zpure : ∃ Inv : (Nat → Int32) → (Nat → Nat → Int32) → (Nat → Nat → Int64) → Int64 → Prop, Inv zI0 zA0 zJ0 0 ∧ zsteps Inv :=
  ⟨Inv, inv_start, zp_put, zp_person, zp_talk, zp_due, zp_sight, zp_clears, zp_type, zp_wipe, zp_read, zp_write, zp_erase, zp_fault, zp_clock, zp_counts, zp_sun, zp_letter, zp_turns, zp_paid, zp_best, zp_step, zp_minute, zp_stake, zp_silence, zp_night, zp_who, zp_sign, zp_limb, zp_image, zp_from, zp_status, zp_count, zp_digest⟩
