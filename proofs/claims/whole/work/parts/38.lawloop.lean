def zsteps (Inv : (Nat → Int32) → (Nat → Nat → Int32) → (Nat → Nat → Int64) → Int64 → Prop) : Prop :=
  zstep_put Inv ∧ zstep_person Inv ∧ zstep_talk Inv ∧ zstep_due Inv ∧ zstep_sight Inv ∧ zstep_clears Inv ∧ zstep_type Inv ∧ zstep_wipe Inv ∧ zstep_read Inv ∧ zstep_write Inv ∧ zstep_erase Inv ∧ zstep_fault Inv ∧ zstep_clock Inv ∧ zstep_counts Inv ∧ zstep_sun Inv ∧ zstep_letter Inv ∧ zstep_turns Inv ∧ zstep_paid Inv ∧ zstep_best Inv ∧ zstep_step Inv ∧ zstep_minute Inv ∧ zstep_stake Inv ∧ zstep_silence Inv ∧ zstep_night Inv ∧ zstep_who Inv ∧ zstep_sign Inv ∧ zstep_limb Inv ∧ zstep_image Inv ∧ zstep_from Inv ∧ zstep_status Inv ∧ zstep_count Inv ∧ zstep_digest Inv
theorem zcmp {j L : Nat} (hj : j ≤ 4000) (hL : L ≤ 3072) (h : ¬ nI L - 6 < nI j) : j + 6 ≤ L := by
  have e6 : (6 : Int32) = nI 6 := by decide
  rw [e6, Int32.lt_iff_toInt_lt, pk_sub_toInt (by omega) (by omega), nI_toInt (by omega)] at h
  omega
set_option maxHeartbeats 4000000 in
set_option maxRecDepth 100000 in
theorem zl_body {p : Program} {l : Launch} {e : Env} {s : State} {m : MethodId} {args : Array Value} {below : List Frame} {meth : Method} {c : Code} {cells slots : Nat} {Q : State → Prop} {A : Nat → Prop} {D : va_G} {cI cJ cZ cA : ClassId} {ga ad : Nat → Nat} {x0 : Cond} {b L : Nat} {xs : Nat → Int32} {Inv : (Nat → Int32) → (Nat → Nat → Int32) → (Nat → Nat → Int64) → Int64 → Prop}
    (S : CallFix p m c cL_law 4 s args (x0 :: wsL_law) RL) (hA : ∀ q, s.heap.size ≤ q → A q) (hK : va_K D vwCl (zTy cI cJ cZ cA) s) (hG : zG ga A s s.heap) (hX : va_X b L xs s s.heap) (hbl : b < s.heap.size) (hbA : ¬ A b) (hcs : cells + 0 ≤ room_1.cells ∧ slots + 0 ≤ room_1.slots) (hL : L ≤ 3072) (hsteps : zsteps Inv) {j : Nat} {H : Heap} {locs : List Loc} {ls : Array Slot} {I : Nat → Int32} {Aa : Nat → Nat → Int32} {J : Nat → Nat → Int64} {V : Int64} (hj : j + 6 ≤ L) (hInv : Inv I Aa J V) (hl : lv_has ls 4 [(0, .ref b), (1, .ref (ad 0)), (2, .ref (ad 84)), (3, .int (nI j))]) (hP : va_P D vwCl (wsL cI cJ cZ cA ad I Aa J V) H) (hD : va_D A (wsL cI cJ cZ cA ad I Aa J V)) (hS : va_S A s.heap H locs)
    (kk : ∀ (I : Nat → Int32) (Aa : Nat → Nat → Int32) (J : Nat → Nat → Int64) (V : Int64) (H : Heap) (locs : List Loc), Inv I Aa J V → va_P D vwCl (wsL cI cJ cZ cA ad I Aa J V) H → va_D A (wsL cI cJ cZ cA ad I Aa J V) → va_S A s.heap H locs → W p l e room_1 s m args below meth c H locs cells slots Q (F0 m 1123 ls [])) : W p l e room_1 s m args below meth c H locs cells slots Q (F0 m 27 ls []) := by
  have hx := S.1
  have hb := S.2.1
  have ht : ∀ w, w ∈ wsL_law → w.before args s = true := fun w h => S.2.2.2.2 w (List.mem_cons_of_mem _ h)
  obtain ⟨h0, h1, h2, h3, h4, h5, h6, h7, h8, h9, h10, h11, h12, h13, h14, h15, h16, h17, h18, h19, h20, h21, h22, h23, h24, h25, h26, h27, h28, h29, h30, h31⟩ := hsteps
  refine lv_aload_n hx hb dL_law_27 rfl (lv_at hl 0 rfl) ?_
  refine lv_iload_n hx hb dL_law_28 rfl (lv_at hl 3 rfl) ?_
  refine va_sld hx hb hX hbl hbA hS (vp_in_nI (by omega) (by omega)) dL_law_29 ?_
  refine lv_bipush (v := 31) hx hb dL_law_30 (by decide) ?_
  refine lv_iand hx hb dL_law_32 ?_
  generalize xs (nI j).toNatClampNeg &&& 31 = z
  by_cases z0 : z = 0
  · refine lv_tableIn (tgt := 176) hx hb dL_law_33 (by rw [z0]; decide) (by rw [z0]; decide) (by rw [z0]; rfl) (by decide) ?_
    exact zl_put S hA hK hG hX hbl hbA hcs hL hj hInv h0 hl hP hD hS kk
  · by_cases z1 : z = 1
    · refine lv_tableIn (tgt := 209) hx hb dL_law_33 (by rw [z1]; decide) (by rw [z1]; decide) (by rw [z1]; rfl) (by decide) ?_
      exact zl_person S hA hK hG hX hbl hbA hcs hL hj hInv h1 hl hP hD hS kk
    · by_cases z2 : z = 2
      · refine lv_tableIn (tgt := 242) hx hb dL_law_33 (by rw [z2]; decide) (by rw [z2]; decide) (by rw [z2]; rfl) (by decide) ?_
        exact zl_talk S hA hK hG hX hbl hbA hcs hL hj hInv h2 hl hP hD hS kk
      · by_cases z3 : z = 3
        · refine lv_tableIn (tgt := 285) hx hb dL_law_33 (by rw [z3]; decide) (by rw [z3]; decide) (by rw [z3]; rfl) (by decide) ?_
          exact zl_due S hA hK hG hX hbl hbA hcs hL hj hInv h3 hl hP hD hS kk
        · by_cases z4 : z = 4
          · refine lv_tableIn (tgt := 328) hx hb dL_law_33 (by rw [z4]; decide) (by rw [z4]; decide) (by rw [z4]; rfl) (by decide) ?_
            exact zl_sight S hA hK hG hX hbl hbA hcs hL hj hInv h4 hl hP hD hS kk
          · by_cases z5 : z = 5
            · refine lv_tableIn (tgt := 361) hx hb dL_law_33 (by rw [z5]; decide) (by rw [z5]; decide) (by rw [z5]; rfl) (by decide) ?_
              exact zl_clears S hA hK hG hX hbl hbA hcs hL hj hInv h5 hl hP hD hS kk
            · by_cases z6 : z = 6
              · refine lv_tableIn (tgt := 384) hx hb dL_law_33 (by rw [z6]; decide) (by rw [z6]; decide) (by rw [z6]; rfl) (by decide) ?_
                exact zl_type S hA hK hG hX hbl hbA hcs hL hj hInv h6 hl hP hD hS kk
              · by_cases z7 : z = 7
                · refine lv_tableIn (tgt := 447) hx hb dL_law_33 (by rw [z7]; decide) (by rw [z7]; decide) (by rw [z7]; rfl) (by decide) ?_
                  exact zl_wipe S hA hK hG hX hbl hbA hcs hL hj hInv h7 hl hP hD hS kk
                · by_cases z8 : z = 8
                  · refine lv_tableIn (tgt := 460) hx hb dL_law_33 (by rw [z8]; decide) (by rw [z8]; decide) (by rw [z8]; rfl) (by decide) ?_
                    exact zl_read S hA hK hG hX hbl hbA hcs hL hj hInv h8 hl hP hD hS kk
                  · by_cases z9 : z = 9
                    · refine lv_tableIn (tgt := 473) hx hb dL_law_33 (by rw [z9]; decide) (by rw [z9]; decide) (by rw [z9]; rfl) (by decide) ?_
                      exact zl_write S hA hK hG hX hbl hbA hcs hL hj hInv h9 hl hP hD hS kk
                    · by_cases z10 : z = 10
                      · refine lv_tableIn (tgt := 496) hx hb dL_law_33 (by rw [z10]; decide) (by rw [z10]; decide) (by rw [z10]; rfl) (by decide) ?_
                        exact zl_erase S hA hK hG hX hbl hbA hcs hL hj hInv h10 hl hP hD hS kk
                      · by_cases z11 : z = 11
                        · refine lv_tableIn (tgt := 509) hx hb dL_law_33 (by rw [z11]; decide) (by rw [z11]; decide) (by rw [z11]; rfl) (by decide) ?_
                          exact zl_fault S hA hK hG hX hbl hbA hcs hL hj hInv h11 hl hP hD hS kk
                        · by_cases z12 : z = 12
                          · refine lv_tableIn (tgt := 522) hx hb dL_law_33 (by rw [z12]; decide) (by rw [z12]; decide) (by rw [z12]; rfl) (by decide) ?_
                            exact zl_clock S hA hK hG hX hbl hbA hcs hL hj hInv h12 hl hP hD hS kk
                          · by_cases z13 : z = 13
                            · refine lv_tableIn (tgt := 555) hx hb dL_law_33 (by rw [z13]; decide) (by rw [z13]; decide) (by rw [z13]; rfl) (by decide) ?_
                              exact zl_counts S hA hK hG hX hbl hbA hcs hL hj hInv h13 hl hP hD hS kk
                            · by_cases z14 : z = 14
                              · refine lv_tableIn (tgt := 588) hx hb dL_law_33 (by rw [z14]; decide) (by rw [z14]; decide) (by rw [z14]; rfl) (by decide) ?_
                                exact zl_sun S hA hK hG hX hbl hbA hcs hL hj hInv h14 hl hP hD hS kk
                              · by_cases z15 : z = 15
                                · refine lv_tableIn (tgt := 621) hx hb dL_law_33 (by rw [z15]; decide) (by rw [z15]; decide) (by rw [z15]; rfl) (by decide) ?_
                                  exact zl_letter S hA hK hG hX hbl hbA hcs hL hj hInv h15 hl hP hD hS kk
                                · by_cases z16 : z = 16
                                  · refine lv_tableIn (tgt := 664) hx hb dL_law_33 (by rw [z16]; decide) (by rw [z16]; decide) (by rw [z16]; rfl) (by decide) ?_
                                    exact zl_turns S hA hK hG hX hbl hbA hcs hL hj hInv h16 hl hP hD hS kk
                                  · by_cases z17 : z = 17
                                    · refine lv_tableIn (tgt := 687) hx hb dL_law_33 (by rw [z17]; decide) (by rw [z17]; decide) (by rw [z17]; rfl) (by decide) ?_
                                      exact zl_paid S hA hK hG hX hbl hbA hcs hL hj hInv h17 hl hP hD hS kk
                                    · by_cases z18 : z = 18
                                      · refine lv_tableIn (tgt := 710) hx hb dL_law_33 (by rw [z18]; decide) (by rw [z18]; decide) (by rw [z18]; rfl) (by decide) ?_
                                        exact zl_best S hA hK hG hX hbl hbA hcs hL hj hInv h18 hl hP hD hS kk
                                      · by_cases z19 : z = 19
                                        · refine lv_tableIn (tgt := 733) hx hb dL_law_33 (by rw [z19]; decide) (by rw [z19]; decide) (by rw [z19]; rfl) (by decide) ?_
                                          exact zl_step S hA hK hG hX hbl hbA hcs hL hj hInv h19 hl hP hD hS kk
                                        · by_cases z20 : z = 20
                                          · refine lv_tableIn (tgt := 766) hx hb dL_law_33 (by rw [z20]; decide) (by rw [z20]; decide) (by rw [z20]; rfl) (by decide) ?_
                                            exact zl_minute S hA hK hG hX hbl hbA hcs hL hj hInv h20 hl hP hD hS kk
                                          · by_cases z21 : z = 21
                                            · refine lv_tableIn (tgt := 789) hx hb dL_law_33 (by rw [z21]; decide) (by rw [z21]; decide) (by rw [z21]; rfl) (by decide) ?_
                                              exact zl_stake S hA hK hG hX hbl hbA hcs hL hj hInv h21 hl hP hD hS kk
                                            · by_cases z22 : z = 22
                                              · refine lv_tableIn (tgt := 852) hx hb dL_law_33 (by rw [z22]; decide) (by rw [z22]; decide) (by rw [z22]; rfl) (by decide) ?_
                                                exact zl_silence S hA hK hG hX hbl hbA hcs hL hj hInv h22 hl hP hD hS kk
                                              · by_cases z23 : z = 23
                                                · refine lv_tableIn (tgt := 895) hx hb dL_law_33 (by rw [z23]; decide) (by rw [z23]; decide) (by rw [z23]; rfl) (by decide) ?_
                                                  exact zl_night S hA hK hG hX hbl hbA hcs hL hj hInv h23 hl hP hD hS kk
                                                · by_cases z24 : z = 24
                                                  · refine lv_tableIn (tgt := 938) hx hb dL_law_33 (by rw [z24]; decide) (by rw [z24]; decide) (by rw [z24]; rfl) (by decide) ?_
                                                    exact zl_who S hA hK hG hX hbl hbA hcs hL hj hInv h24 hl hP hD hS kk
                                                  · by_cases z25 : z = 25
                                                    · refine lv_tableIn (tgt := 961) hx hb dL_law_33 (by rw [z25]; decide) (by rw [z25]; decide) (by rw [z25]; rfl) (by decide) ?_
                                                      exact zl_sign S hA hK hG hX hbl hbA hcs hL hj hInv h25 hl hP hD hS kk
                                                    · by_cases z26 : z = 26
                                                      · refine lv_tableIn (tgt := 984) hx hb dL_law_33 (by rw [z26]; decide) (by rw [z26]; decide) (by rw [z26]; rfl) (by decide) ?_
                                                        exact zl_limb S hA hK hG hX hbl hbA hcs hL hj hInv h26 hl hP hD hS kk
                                                      · by_cases z27 : z = 27
                                                        · refine lv_tableIn (tgt := 1017) hx hb dL_law_33 (by rw [z27]; decide) (by rw [z27]; decide) (by rw [z27]; rfl) (by decide) ?_
                                                          exact zl_image S hA hK hG hX hbl hbA hcs hL hj hInv h27 hl hP hD hS kk
                                                        · by_cases z28 : z = 28
                                                          · refine lv_tableIn (tgt := 1040) hx hb dL_law_33 (by rw [z28]; decide) (by rw [z28]; decide) (by rw [z28]; rfl) (by decide) ?_
                                                            exact zl_from S hA hK hG hX hbl hbA hcs hL hj hInv h28 hl hP hD hS kk
                                                          · by_cases z29 : z = 29
                                                            · refine lv_tableIn (tgt := 1063) hx hb dL_law_33 (by rw [z29]; decide) (by rw [z29]; decide) (by rw [z29]; rfl) (by decide) ?_
                                                              exact zl_status S hA hK hG hX hbl hbA hcs hL hj hInv h29 hl hP hD hS kk
                                                            · by_cases z30 : z = 30
                                                              · refine lv_tableIn (tgt := 1086) hx hb dL_law_33 (by rw [z30]; decide) (by rw [z30]; decide) (by rw [z30]; rfl) (by decide) ?_
                                                                exact zl_count S hA hK hG hX hbl hbA hcs hL hj hInv h30 hl hP hD hS kk
                                                              · by_cases z31 : z = 31
                                                                · refine lv_tableIn (tgt := 1109) hx hb dL_law_33 (by rw [z31]; decide) (by rw [z31]; decide) (by rw [z31]; rfl) (by decide) ?_
                                                                  exact zl_digest S hA hK hG hX hbl hbA hcs hL hj hInv h31 hl hP hD hS kk
                                                                · refine lv_tableOut (tgt := 1123) hx hb dL_law_33 (by have a0 := lv_neT z0 (a := 0) (by decide); have a1 := lv_neT z1 (a := 1) (by decide); have a2 := lv_neT z2 (a := 2) (by decide); have a3 := lv_neT z3 (a := 3) (by decide); have a4 := lv_neT z4 (a := 4) (by decide); have a5 := lv_neT z5 (a := 5) (by decide); have a6 := lv_neT z6 (a := 6) (by decide); have a7 := lv_neT z7 (a := 7) (by decide); have a8 := lv_neT z8 (a := 8) (by decide); have a9 := lv_neT z9 (a := 9) (by decide); have a10 := lv_neT z10 (a := 10) (by decide); have a11 := lv_neT z11 (a := 11) (by decide); have a12 := lv_neT z12 (a := 12) (by decide); have a13 := lv_neT z13 (a := 13) (by decide); have a14 := lv_neT z14 (a := 14) (by decide); have a15 := lv_neT z15 (a := 15) (by decide); have a16 := lv_neT z16 (a := 16) (by decide); have a17 := lv_neT z17 (a := 17) (by decide); have a18 := lv_neT z18 (a := 18) (by decide); have a19 := lv_neT z19 (a := 19) (by decide); have a20 := lv_neT z20 (a := 20) (by decide); have a21 := lv_neT z21 (a := 21) (by decide); have a22 := lv_neT z22 (a := 22) (by decide); have a23 := lv_neT z23 (a := 23) (by decide); have a24 := lv_neT z24 (a := 24) (by decide); have a25 := lv_neT z25 (a := 25) (by decide); have a26 := lv_neT z26 (a := 26) (by decide); have a27 := lv_neT z27 (a := 27) (by decide); have a28 := lv_neT z28 (a := 28) (by decide); have a29 := lv_neT z29 (a := 29) (by decide); have a30 := lv_neT z30 (a := 30) (by decide); have a31 := lv_neT z31 (a := 31) (by decide); omega) (by decide) ?_
                                                                  exact kk _ _ _ _ _ _ hInv hP hD hS
set_option maxHeartbeats 4000000 in
set_option maxRecDepth 100000 in
theorem zl_loop {p : Program} {l : Launch} {e : Env} {s : State} {m : MethodId} {args : Array Value} {below : List Frame} {meth : Method} {c : Code} {cells slots : Nat} {Q : State → Prop} {A : Nat → Prop} {D : va_G} {cI cJ cZ cA : ClassId} {ga ad : Nat → Nat} {x0 : Cond} {b L : Nat} {xs : Nat → Int32} {Inv : (Nat → Int32) → (Nat → Nat → Int32) → (Nat → Nat → Int64) → Int64 → Prop}
    (S : CallFix p m c cL_law 4 s args (x0 :: wsL_law) RL) (hA : ∀ q, s.heap.size ≤ q → A q) (hK : va_K D vwCl (zTy cI cJ cZ cA) s) (hG : zG ga A s s.heap) (hX : va_X b L xs s s.heap) (hbl : b < s.heap.size) (hbA : ¬ A b) (hcs : cells + 0 ≤ room_1.cells ∧ slots + 0 ≤ room_1.slots) (hL : L ≤ 3072) (hsteps : zsteps Inv) (kx : ∀ (H : Heap) (locs : List Loc) (ls : Array Slot), va_S A s.heap H locs → W p l e room_1 s m args below meth c H locs cells slots Q (F0 m 1129 ls [])) :
    ∀ (n j : Nat), j ≤ 3072 → L ≤ j + 6 * n → ∀ (H : Heap) (locs : List Loc) (ls : Array Slot) (I : Nat → Int32) (Aa : Nat → Nat → Int32) (J : Nat → Nat → Int64) (V : Int64), Inv I Aa J V → lv_has ls 4 [(0, .ref b), (1, .ref (ad 0)), (2, .ref (ad 84)), (3, .int (nI j))] → va_P D vwCl (wsL cI cJ cZ cA ad I Aa J V) H → va_D A (wsL cI cJ cZ cA ad I Aa J V) → va_S A s.heap H locs → W p l e room_1 s m args below meth c H locs cells slots Q (F0 m 18 ls []) := by
  have hx := S.1
  have hb := S.2.1
  intro n
  induction n with
  | zero =>
    intro j hj3 hn H locs ls I Aa J V hInv hl hP hD hS
    refine lv_iload_n hx hb dL_law_18 rfl (lv_at hl 3 rfl) ?_
    refine lv_aload_n hx hb dL_law_19 rfl (lv_at hl 0 rfl) ?_
    refine va_slen hx hb hX hbl hbA hS dL_law_20 ?_
    refine lv_bipush (v := 6) hx hb dL_law_21 (by decide) ?_
    refine lv_isub hx hb dL_law_23 ?_
    refine lv_icmp_gt (tgt := 1129) hx hb dL_law_24 (by decide) (fun _ => kx _ _ _ hS) (fun h => ?_)
    have := zcmp (by omega) hL h
    omega
  | succ n ih =>
    intro j hj3 hn H locs ls I Aa J V hInv hl hP hD hS
    refine lv_iload_n hx hb dL_law_18 rfl (lv_at hl 3 rfl) ?_
    refine lv_aload_n hx hb dL_law_19 rfl (lv_at hl 0 rfl) ?_
    refine va_slen hx hb hX hbl hbA hS dL_law_20 ?_
    refine lv_bipush (v := 6) hx hb dL_law_21 (by decide) ?_
    refine lv_isub hx hb dL_law_23 ?_
    refine lv_icmp_gt (tgt := 1129) hx hb dL_law_24 (by decide) (fun _ => kx _ _ _ hS) (fun h => ?_)
    have hj := zcmp (by omega) hL h
    refine zl_body S hA hK hG hX hbl hbA hcs hL hsteps hj hInv hl hP hD hS fun I Aa J V H locs hInv hP hD hS => ?_
    refine lv_iinc (k := 3) (v := nI (j + 6)) (lv' := [(3, .int (nI (j + 6))), (0, .ref b), (1, .ref (ad 0)), (2, .ref (ad 84))]) hx hb dL_law_1123 hl rfl (by rw [show Int32.ofInt 6 = nI 6 by decide, nI_add]) (by decide) rfl (fun ls hl => ?_)
    refine lv_goto (tgt := 18) hx hb dL_law_1126 (by decide) ?_
    exact ih (j + 6) (by omega) (by omega) _ _ _ _ _ _ _ hInv (lv_sub hl [1, 2, 3, 0] rfl) hP hD hS
