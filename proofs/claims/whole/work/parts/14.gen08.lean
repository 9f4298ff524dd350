/-! SpokenClock$Fraction.shape(I)I -/
abbrev ws_X2_shape (cI cJ cZ cA : ClassId) (q_X_fraction q_X_fraction_above q_X_fraction_above_limbs q_X_fraction_below q_X_fraction_below_limbs : Nat) (u_X_fraction_term : Value) (a_X_fraction_above_limbs : Nat → Int32) (a_X_fraction_below_limbs : Nat → Int32) : va_W := [(q_X_fraction, .inr (2, [.ref q_X_fraction_above, .ref q_X_fraction_below, u_X_fraction_term])), (q_X_fraction_above, .inr (0, [.ref q_X_fraction_above_limbs])), (q_X_fraction_above_limbs, .inl (cI, 8, .inl a_X_fraction_above_limbs)), (q_X_fraction_below, .inr (0, [.ref q_X_fraction_below_limbs])), (q_X_fraction_below_limbs, .inl (cI, 8, .inl a_X_fraction_below_limbs))]
abbrev rm_X2_shape : Room := { frames := 1, cells := 0, slots := 0, locals := 21 }
def g_X2_shape (a_X_fraction_above_limbs : Nat → Int32) (a_X_fraction_below_limbs : Nat → Int32) (x1 : Int32) : Option (Int32) :=
  if x1 = 0 then (
    (g_X0_size a_X_fraction_above_limbs).bind fun v1 =>
    if v1 ≤ 0 then (
      some (0)
    ) else (
      some (1)
    )
  ) else
  if x1 = 1 then (
    (g_X0_size a_X_fraction_above_limbs).bind fun v3 =>
    some (v3)
  ) else
  (
    (g_X0_size a_X_fraction_below_limbs).bind fun v5 =>
    some (v5)
  )
theorem hd_X2_shape : yX2_shape.cls = RX2 ∧ yX2_shape.cls ≠ "java/lang/invoke/MethodHandle" ∧ yX2_shape.cls ≠ "java/lang/invoke/VarHandle" ∧ (parseMethodDescriptor yX2_shape.desc).map (fun d => d.parameters.length) = some 1 := by decide +kernel
set_option maxHeartbeats 4000000 in
set_option maxRecDepth 100000 in
theorem c_X2_shape (l : Launch) (D : va_G) (cI cJ cZ cA : ClassId) (ga : Nat → Nat) (q_X_fraction q_X_fraction_above q_X_fraction_above_limbs q_X_fraction_below q_X_fraction_below_limbs : Nat) (u_X_fraction_term : Value) (a_X_fraction_above_limbs : Nat → Int32) (a_X_fraction_below_limbs : Nat → Int32) (x1 : Int32) (o : Int32) (hg : g_X2_shape a_X_fraction_above_limbs a_X_fraction_below_limbs x1 = some o) : zM l yX2_shape (Cond.code yX2_shape cX2_shape 2 (some .int) :: wsL_law) rm_X2_shape D (zTy cI cJ cZ cA) ga [.ref q_X_fraction, .int x1] (ws_X2_shape cI cJ cZ cA q_X_fraction q_X_fraction_above q_X_fraction_above_limbs q_X_fraction_below q_X_fraction_below_limbs u_X_fraction_term a_X_fraction_above_limbs a_X_fraction_below_limbs) (ws_X2_shape cI cJ cZ cA q_X_fraction q_X_fraction_above q_X_fraction_above_limbs q_X_fraction_below q_X_fraction_below_limbs u_X_fraction_term a_X_fraction_above_limbs a_X_fraction_below_limbs) (some (.int o)) := by
  refine zenterI (own := RX2) (by decide) rfl rfl (Nat.le_of_ble_eq_true rfl) ?_
  intro p e s m args below meth c A ls Q S hA hK hG hl hP hD hS hret0
  have hx := S.1
  have hb := S.2.1
  have ht : ∀ w, w ∈ wsL_law → w.before args s = true := fun w h => S.2.2.2.2 w (List.mem_cons_of_mem _ h)
  have hret : ∀ (r9 : Int32), (some (r9) : Option (Int32)) = some o → ∀ (H : Heap) (locs : List Loc) (pc : Nat) (ls : Array Slot), va_P D vwCl (ws_X2_shape cI cJ cZ cA q_X_fraction q_X_fraction_above q_X_fraction_above_limbs q_X_fraction_below q_X_fraction_below_limbs u_X_fraction_term a_X_fraction_above_limbs a_X_fraction_below_limbs) H → va_S A s.heap H locs → decode cX2_shape pc = .ok (.ireturn, 1) → W p l e rm_X2_shape s m args below meth c H locs 0 0 Q (F0 m pc ls [.int r9]) := by
    intro r9 he; cases he; exact hret0
  have hl : lv_has ls 2 [(0, .ref q_X_fraction), (1, .int x1)] := hl
  refine lv_iload_n hx hb dX2_shape_0 rfl (lv_at hl 1 rfl) ?_
  by_cases h1_0 : x1 = 0
  · have hg := zp hg h1_0
    refine lv_lookup (off := 27) (tgt := 28) hx hb dX2_shape_1 (by decide) (by rw [h1_0]; decide) (by decide) ?_
    refine lv_aload_n hx hb dX2_shape_28 rfl (lv_at hl 0 rfl) ?_
    refine zget (C := RX2) (T := TX2) (N := 3) S hK hP 0 rfl rfl 0 (Nat.le_of_ble_eq_true rfl) zf_2 zw_68 rfl dX2_shape_29 ?_
    obtain ⟨v1, hc2, hg⟩ := zbd hg
    refine zcallV (rest := []) S (c_X0_size l D cI cJ cZ cA ga q_X_fraction_above q_X_fraction_above_limbs a_X_fraction_above_limbs v1 hc2) (zgV zw_987 zw_988 zw_989 zw_67 zw_990) rfl hd_X0_size ⟨rfl, rfl⟩ ⟨Nat.le_of_ble_eq_true rfl, Nat.le_of_ble_eq_true rfl⟩ 1 0 rfl rfl rfl hl.1 rfl (Nat.le_of_ble_eq_true rfl) dX2_shape_32 hP hD hS hA hK hG (isC := [1, 2]) rfl rfl rfl (w2 := (ws_X2_shape cI cJ cZ cA q_X_fraction q_X_fraction_above q_X_fraction_above_limbs q_X_fraction_below q_X_fraction_below_limbs u_X_fraction_term a_X_fraction_above_limbs a_X_fraction_below_limbs)) rfl (st1 := [.int v1]) rfl (fun H locs hP hD hS => ?_)
    refine lv_if_le (tgt := 42) hx hb dX2_shape_35 (by decide) (fun h35 => ?_) (fun h35 => ?_)
    · have hg := zp hg h35
      refine lv_iconst (v := 0) hx hb dX2_shape_42 (by decide) ?_
      exact hret 0 hg _ _ _ _ hP hS dX2_shape_43
    · have hg := zn hg h35
      refine lv_iconst (v := 1) hx hb dX2_shape_38 (by decide) ?_
      refine lv_goto (tgt := 43) hx hb dX2_shape_39 (by decide) ?_
      exact hret 1 hg _ _ _ _ hP hS dX2_shape_43
  · have hg := zn hg h1_0
    by_cases h1_1 : x1 = 1
    · have hg := zp hg h1_1
      refine lv_lookup (off := 43) (tgt := 44) hx hb dX2_shape_1 (by decide) (by rw [h1_1]; decide) (by decide) ?_
      refine lv_aload_n hx hb dX2_shape_44 rfl (lv_at hl 0 rfl) ?_
      refine zget (C := RX2) (T := TX2) (N := 3) S hK hP 0 rfl rfl 0 (Nat.le_of_ble_eq_true rfl) zf_2 zw_68 rfl dX2_shape_45 ?_
      obtain ⟨v3, hc4, hg⟩ := zbd hg
      refine zcallV (rest := []) S (c_X0_size l D cI cJ cZ cA ga q_X_fraction_above q_X_fraction_above_limbs a_X_fraction_above_limbs v3 hc4) (zgV zw_987 zw_988 zw_989 zw_67 zw_990) rfl hd_X0_size ⟨rfl, rfl⟩ ⟨Nat.le_of_ble_eq_true rfl, Nat.le_of_ble_eq_true rfl⟩ 1 0 rfl rfl rfl hl.1 rfl (Nat.le_of_ble_eq_true rfl) dX2_shape_48 hP hD hS hA hK hG (isC := [1, 2]) rfl rfl rfl (w2 := (ws_X2_shape cI cJ cZ cA q_X_fraction q_X_fraction_above q_X_fraction_above_limbs q_X_fraction_below q_X_fraction_below_limbs u_X_fraction_term a_X_fraction_above_limbs a_X_fraction_below_limbs)) rfl (st1 := [.int v3]) rfl (fun H locs hP hD hS => ?_)
      exact hret v3 hg _ _ _ _ hP hS dX2_shape_51
    · have hg := zn hg h1_1
      refine lv_lookup (off := 51) (tgt := 52) hx hb dX2_shape_1 (by decide) ((lv_osw h1_0 (by decide)).trans ((lv_osw h1_1 (by decide)).trans (rfl))) (by decide) ?_
      refine lv_aload_n hx hb dX2_shape_52 rfl (lv_at hl 0 rfl) ?_
      refine zget (C := RX2) (T := TX2) (N := 3) S hK hP 0 rfl rfl 1 (Nat.le_of_ble_eq_true rfl) zf_2 zw_69 rfl dX2_shape_53 ?_
      obtain ⟨v5, hc6, hg⟩ := zbd hg
      refine zcallV (rest := []) S (c_X0_size l D cI cJ cZ cA ga q_X_fraction_below q_X_fraction_below_limbs a_X_fraction_below_limbs v5 hc6) (zgV zw_987 zw_988 zw_989 zw_67 zw_990) rfl hd_X0_size ⟨rfl, rfl⟩ ⟨Nat.le_of_ble_eq_true rfl, Nat.le_of_ble_eq_true rfl⟩ 3 0 rfl rfl rfl hl.1 rfl (Nat.le_of_ble_eq_true rfl) dX2_shape_56 hP hD hS hA hK hG (isC := [3, 4]) rfl rfl rfl (w2 := (ws_X2_shape cI cJ cZ cA q_X_fraction q_X_fraction_above q_X_fraction_above_limbs q_X_fraction_below q_X_fraction_below_limbs u_X_fraction_term a_X_fraction_above_limbs a_X_fraction_below_limbs)) rfl (st1 := [.int v5]) rfl (fun H locs hP hD hS => ?_)
      exact hret v5 hg _ _ _ _ hP hS dX2_shape_59

/-! SpokenClock.sign(I)I -/
abbrev ws_X10_sign (cI cJ cZ cA : ClassId) (q_X q_X_fraction q_X_fraction_above q_X_fraction_above_limbs q_X_fraction_below q_X_fraction_below_limbs q_X_refusals : Nat) (u_X_now : Value) (u_X_draft : Value) (u_X_text : Value) (u_X_reader : Value) (u_X_rule : Value) (u_X_day : Value) (u_X_plan : Value) (u_X_guess : Value) (u_X_quarrel : Value) (u_X_firstImage : Value) (u_X_secondImage : Value) (u_X_kept : Value) (u_X_fraction_term : Value) (a_X_fraction_above_limbs : Nat → Int32) (a_X_fraction_below_limbs : Nat → Int32) (a_X_refusals : Nat → Int32) : va_W := [(q_X, .inr (10, [u_X_now, u_X_draft, u_X_text, u_X_reader, u_X_rule, u_X_day, u_X_plan, u_X_guess, u_X_quarrel, .ref q_X_fraction, u_X_firstImage, u_X_secondImage, u_X_kept, .ref q_X_refusals])), (q_X_fraction, .inr (2, [.ref q_X_fraction_above, .ref q_X_fraction_below, u_X_fraction_term])), (q_X_fraction_above, .inr (0, [.ref q_X_fraction_above_limbs])), (q_X_fraction_above_limbs, .inl (cI, 8, .inl a_X_fraction_above_limbs)), (q_X_fraction_below, .inr (0, [.ref q_X_fraction_below_limbs])), (q_X_fraction_below_limbs, .inl (cI, 8, .inl a_X_fraction_below_limbs)), (q_X_refusals, .inl (cI, 3, .inl a_X_refusals))]
abbrev rm_X10_sign : Room := { frames := 2, cells := 0, slots := 0, locals := 44 }
def g_X10_sign (a_X_fraction_above_limbs : Nat → Int32) (a_X_fraction_below_limbs : Nat → Int32) (x1 : Int32) (a_X_refusals : Nat → Int32) : Option (Int32 × (Nat → Int32)) :=
  (g_X10_isIn x1 0 2).bind fun v1 =>
  if v1 = 0 then (
    (g_X10_refuse (-2) a_X_refusals).bind fun v5 =>
    some (v5.1, v5.2)
  ) else (
    (g_X2_shape a_X_fraction_above_limbs a_X_fraction_below_limbs x1).bind fun v3 =>
    some (v3, a_X_refusals)
  )
theorem hd_X10_sign : yX10_sign.cls = RX10 ∧ yX10_sign.cls ≠ "java/lang/invoke/MethodHandle" ∧ yX10_sign.cls ≠ "java/lang/invoke/VarHandle" ∧ (parseMethodDescriptor yX10_sign.desc).map (fun d => d.parameters.length) = some 1 := by decide +kernel
set_option maxHeartbeats 4000000 in
set_option maxRecDepth 100000 in
theorem c_X10_sign (l : Launch) (D : va_G) (cI cJ cZ cA : ClassId) (ga : Nat → Nat) (q_X q_X_fraction q_X_fraction_above q_X_fraction_above_limbs q_X_fraction_below q_X_fraction_below_limbs q_X_refusals : Nat) (u_X_now : Value) (u_X_draft : Value) (u_X_text : Value) (u_X_reader : Value) (u_X_rule : Value) (u_X_day : Value) (u_X_plan : Value) (u_X_guess : Value) (u_X_quarrel : Value) (u_X_firstImage : Value) (u_X_secondImage : Value) (u_X_kept : Value) (u_X_fraction_term : Value) (a_X_fraction_above_limbs : Nat → Int32) (a_X_fraction_below_limbs : Nat → Int32) (a_X_refusals : Nat → Int32) (x1 : Int32) (o : Int32 × (Nat → Int32)) (hg : g_X10_sign a_X_fraction_above_limbs a_X_fraction_below_limbs x1 a_X_refusals = some o) : zM l yX10_sign (Cond.code yX10_sign cX10_sign 2 (some .int) :: wsL_law) rm_X10_sign D (zTy cI cJ cZ cA) ga [.ref q_X, .int x1] (ws_X10_sign cI cJ cZ cA q_X q_X_fraction q_X_fraction_above q_X_fraction_above_limbs q_X_fraction_below q_X_fraction_below_limbs q_X_refusals u_X_now u_X_draft u_X_text u_X_reader u_X_rule u_X_day u_X_plan u_X_guess u_X_quarrel u_X_firstImage u_X_secondImage u_X_kept u_X_fraction_term a_X_fraction_above_limbs a_X_fraction_below_limbs a_X_refusals) (ws_X10_sign cI cJ cZ cA q_X q_X_fraction q_X_fraction_above q_X_fraction_above_limbs q_X_fraction_below q_X_fraction_below_limbs q_X_refusals u_X_now u_X_draft u_X_text u_X_reader u_X_rule u_X_day u_X_plan u_X_guess u_X_quarrel u_X_firstImage u_X_secondImage u_X_kept u_X_fraction_term a_X_fraction_above_limbs a_X_fraction_below_limbs o.2) (some (.int o.1)) := by
  refine zenterI (own := RX10) (by decide) rfl rfl (Nat.le_of_ble_eq_true rfl) ?_
  intro p e s m args below meth c A ls Q S hA hK hG hl hP hD hS hret0
  have hx := S.1
  have hb := S.2.1
  have ht : ∀ w, w ∈ wsL_law → w.before args s = true := fun w h => S.2.2.2.2 w (List.mem_cons_of_mem _ h)
  have hret : ∀ (r9 : Int32) (a_X_refusals : Nat → Int32), (some (r9, a_X_refusals) : Option (Int32 × (Nat → Int32))) = some o → ∀ (H : Heap) (locs : List Loc) (pc : Nat) (ls : Array Slot), va_P D vwCl (ws_X10_sign cI cJ cZ cA q_X q_X_fraction q_X_fraction_above q_X_fraction_above_limbs q_X_fraction_below q_X_fraction_below_limbs q_X_refusals u_X_now u_X_draft u_X_text u_X_reader u_X_rule u_X_day u_X_plan u_X_guess u_X_quarrel u_X_firstImage u_X_secondImage u_X_kept u_X_fraction_term a_X_fraction_above_limbs a_X_fraction_below_limbs a_X_refusals) H → va_S A s.heap H locs → decode cX10_sign pc = .ok (.ireturn, 1) → W p l e rm_X10_sign s m args below meth c H locs 0 0 Q (F0 m pc ls [.int r9]) := by
    intro r9 a_X_refusals he; cases he; exact hret0
  have hl : lv_has ls 2 [(0, .ref q_X), (1, .int x1)] := hl
  refine lv_iload_n hx hb dX10_sign_0 rfl (lv_at hl 1 rfl) ?_
  refine lv_iconst (v := 0) hx hb dX10_sign_1 (by decide) ?_
  refine lv_iconst (v := 2) hx hb dX10_sign_2 (by decide) ?_
  obtain ⟨v1, hc2, hg⟩ := zbd hg
  refine zcallS (rest := []) S (c_X10_isIn l D cI cJ cZ cA ga x1 0 2 v1 hc2) (zgS zw_188 zw_189 zw_2 zw_190) rfl hd_X10_isIn ⟨rfl, rfl⟩ ⟨Nat.le_of_ble_eq_true rfl, Nat.le_of_ble_eq_true rfl⟩ rfl hl.1 rfl (Nat.le_of_ble_eq_true rfl) dX10_sign_3 hP hD hS hA hK hG (isC := []) rfl rfl rfl (w2 := (ws_X10_sign cI cJ cZ cA q_X q_X_fraction q_X_fraction_above q_X_fraction_above_limbs q_X_fraction_below q_X_fraction_below_limbs q_X_refusals u_X_now u_X_draft u_X_text u_X_reader u_X_rule u_X_day u_X_plan u_X_guess u_X_quarrel u_X_firstImage u_X_secondImage u_X_kept u_X_fraction_term a_X_fraction_above_limbs a_X_fraction_below_limbs a_X_refusals)) rfl (st1 := [.int v1]) rfl (fun H locs hP hD hS => ?_)
  refine lv_if_ne (tgt := 16) hx hb dX10_sign_6 (by decide) (fun h6 => ?_) (fun h6 => ?_)
  · have hg := zn hg h6
    refine lv_aload_n hx hb dX10_sign_16 rfl (lv_at hl 0 rfl) ?_
    refine zget (C := RX10) (T := TX10) (N := 14) S hK hP 0 rfl rfl 9 (Nat.le_of_ble_eq_true rfl) zf_10 zw_20 rfl dX10_sign_17 ?_
    refine lv_iload_n hx hb dX10_sign_20 rfl (lv_at hl 1 rfl) ?_
    obtain ⟨v3, hc4, hg⟩ := zbd hg
    refine zcallV (rest := []) S (c_X2_shape l D cI cJ cZ cA ga q_X_fraction q_X_fraction_above q_X_fraction_above_limbs q_X_fraction_below q_X_fraction_below_limbs u_X_fraction_term a_X_fraction_above_limbs a_X_fraction_below_limbs x1 v3 hc4) (zgV zw_983 zw_984 zw_985 zw_19 zw_986) rfl hd_X2_shape ⟨rfl, rfl⟩ ⟨Nat.le_of_ble_eq_true rfl, Nat.le_of_ble_eq_true rfl⟩ 1 2 rfl rfl rfl hl.1 rfl (Nat.le_of_ble_eq_true rfl) dX10_sign_21 hP hD hS hA hK hG (isC := [1, 2, 3, 4, 5]) rfl rfl rfl (w2 := (ws_X10_sign cI cJ cZ cA q_X q_X_fraction q_X_fraction_above q_X_fraction_above_limbs q_X_fraction_below q_X_fraction_below_limbs q_X_refusals u_X_now u_X_draft u_X_text u_X_reader u_X_rule u_X_day u_X_plan u_X_guess u_X_quarrel u_X_firstImage u_X_secondImage u_X_kept u_X_fraction_term a_X_fraction_above_limbs a_X_fraction_below_limbs a_X_refusals)) rfl (st1 := [.int v3]) rfl (fun H locs hP hD hS => ?_)
    exact hret v3 a_X_refusals hg _ _ _ _ hP hS dX10_sign_24
  · have hg := zp hg h6
    refine lv_aload_n hx hb dX10_sign_9 rfl (lv_at hl 0 rfl) ?_
    refine lv_bipush (v := (-2)) hx hb dX10_sign_10 (by decide) ?_
    obtain ⟨v5, hc6, hg⟩ := zbd hg
    refine zcallV (rest := []) S (c_X10_refuse l D cI cJ cZ cA ga q_X q_X_refusals u_X_now u_X_draft u_X_text u_X_reader u_X_rule u_X_day u_X_plan u_X_guess u_X_quarrel (.ref q_X_fraction) u_X_firstImage u_X_secondImage u_X_kept a_X_refusals (-2) v5 hc6) (zgV zw_184 zw_185 zw_186 zw_2 zw_187) rfl hd_X10_refuse ⟨rfl, rfl⟩ ⟨Nat.le_of_ble_eq_true rfl, Nat.le_of_ble_eq_true rfl⟩ 0 10 rfl rfl rfl hl.1 rfl (Nat.le_of_ble_eq_true rfl) dX10_sign_12 hP hD hS hA hK hG (isC := [0, 6]) rfl rfl rfl (w2 := (ws_X10_sign cI cJ cZ cA q_X q_X_fraction q_X_fraction_above q_X_fraction_above_limbs q_X_fraction_below q_X_fraction_below_limbs q_X_refusals u_X_now u_X_draft u_X_text u_X_reader u_X_rule u_X_day u_X_plan u_X_guess u_X_quarrel u_X_firstImage u_X_secondImage u_X_kept u_X_fraction_term a_X_fraction_above_limbs a_X_fraction_below_limbs v5.2)) rfl (st1 := [.int v5.1]) rfl (fun H locs hP hD hS => ?_)
    exact hret v5.1 v5.2 hg _ _ _ _ hP hS dX10_sign_15

/-! SpokenClock$Big.limbAt(I)I -/
abbrev ws_X0_limbAt (cI cJ cZ cA : ClassId) (q_B q_B_limbs : Nat) (a_B_limbs : Nat → Int32) : va_W := [(q_B, .inr (0, [.ref q_B_limbs])), (q_B_limbs, .inl (cI, 8, .inl a_B_limbs))]
abbrev rm_X0_limbAt : Room := { frames := 1, cells := 0, slots := 0, locals := 21 }
def g_X0_limbAt (a_B_limbs : Nat → Int32) (x1 : Int32) : Option (Int32) :=
  if x1 < 0 then (
    some ((-1))
  ) else (
    (g_X0_size a_B_limbs).bind fun v1 =>
    if v1 ≤ x1 then (
      some ((-1))
    ) else (
      if x1 < 0 ∨ 8 ≤ x1.toNatClampNeg then none else
      some (a_B_limbs (x1.toNatClampNeg))
    )
  )
theorem hd_X0_limbAt : yX0_limbAt.cls = RX0 ∧ yX0_limbAt.cls ≠ "java/lang/invoke/MethodHandle" ∧ yX0_limbAt.cls ≠ "java/lang/invoke/VarHandle" ∧ (parseMethodDescriptor yX0_limbAt.desc).map (fun d => d.parameters.length) = some 1 := by decide +kernel
set_option maxHeartbeats 4000000 in
set_option maxRecDepth 100000 in
theorem c_X0_limbAt (l : Launch) (D : va_G) (cI cJ cZ cA : ClassId) (ga : Nat → Nat) (q_B q_B_limbs : Nat) (a_B_limbs : Nat → Int32) (x1 : Int32) (o : Int32) (hg : g_X0_limbAt a_B_limbs x1 = some o) : zM l yX0_limbAt (Cond.code yX0_limbAt cX0_limbAt 2 (some .int) :: wsL_law) rm_X0_limbAt D (zTy cI cJ cZ cA) ga [.ref q_B, .int x1] (ws_X0_limbAt cI cJ cZ cA q_B q_B_limbs a_B_limbs) (ws_X0_limbAt cI cJ cZ cA q_B q_B_limbs a_B_limbs) (some (.int o)) := by
  refine zenterI (own := RX0) (by decide) rfl rfl (Nat.le_of_ble_eq_true rfl) ?_
  intro p e s m args below meth c A ls Q S hA hK hG hl hP hD hS hret0
  have hx := S.1
  have hb := S.2.1
  have ht : ∀ w, w ∈ wsL_law → w.before args s = true := fun w h => S.2.2.2.2 w (List.mem_cons_of_mem _ h)
  have hret : ∀ (r9 : Int32), (some (r9) : Option (Int32)) = some o → ∀ (H : Heap) (locs : List Loc) (pc : Nat) (ls : Array Slot), va_P D vwCl (ws_X0_limbAt cI cJ cZ cA q_B q_B_limbs a_B_limbs) H → va_S A s.heap H locs → decode cX0_limbAt pc = .ok (.ireturn, 1) → W p l e rm_X0_limbAt s m args below meth c H locs 0 0 Q (F0 m pc ls [.int r9]) := by
    intro r9 he; cases he; exact hret0
  have hl : lv_has ls 2 [(0, .ref q_B), (1, .int x1)] := hl
  refine lv_iload_n hx hb dX0_limbAt_0 rfl (lv_at hl 1 rfl) ?_
  refine lv_if_lt (tgt := 21) hx hb dX0_limbAt_1 (by decide) (fun h1 => ?_) (fun h1 => ?_)
  · have hg := zp hg h1
    refine lv_iconst (v := (-1)) hx hb dX0_limbAt_21 (by decide) ?_
    exact hret (-1) hg _ _ _ _ hP hS dX0_limbAt_22
  · have hg := zn hg h1
    refine lv_iload_n hx hb dX0_limbAt_4 rfl (lv_at hl 1 rfl) ?_
    refine lv_aload_n hx hb dX0_limbAt_5 rfl (lv_at hl 0 rfl) ?_
    obtain ⟨v1, hc2, hg⟩ := zbd hg
    refine zcallV (rest := [.int x1]) S (c_X0_size l D cI cJ cZ cA ga q_B q_B_limbs a_B_limbs v1 hc2) (zgV zw_1007 zw_988 zw_989 zw_67 zw_990) rfl hd_X0_size ⟨rfl, rfl⟩ ⟨Nat.le_of_ble_eq_true rfl, Nat.le_of_ble_eq_true rfl⟩ 0 0 rfl rfl rfl hl.1 rfl (Nat.le_of_ble_eq_true rfl) dX0_limbAt_6 hP hD hS hA hK hG (isC := [0, 1]) rfl rfl rfl (w2 := (ws_X0_limbAt cI cJ cZ cA q_B q_B_limbs a_B_limbs)) rfl (st1 := [.int v1, .int x1]) rfl (fun H locs hP hD hS => ?_)
    refine lv_icmp_ge (tgt := 21) hx hb dX0_limbAt_9 (by decide) (fun h9 => ?_) (fun h9 => ?_)
    · have hg := zp hg h9
      refine lv_iconst (v := (-1)) hx hb dX0_limbAt_21 (by decide) ?_
      exact hret (-1) hg _ _ _ _ hP hS dX0_limbAt_22
    · have hg := zn hg h9
      refine lv_aload_n hx hb dX0_limbAt_12 rfl (lv_at hl 0 rfl) ?_
      refine zget (C := RX0) (T := TX0) (N := 1) S hK hP 0 rfl rfl 0 (Nat.le_of_ble_eq_true rfl) zf_0 zw_75 rfl dX0_limbAt_13 ?_
      refine lv_iload_n hx hb dX0_limbAt_16 rfl (lv_at hl 1 rfl) ?_
      obtain ⟨h3, hg⟩ := zck hg
      refine ziald hx hb hK hP 1 0 rfl rfl (j := (x1.toNatClampNeg)) h3 rfl dX0_limbAt_17 ?_
      refine lv_goto (tgt := 22) hx hb dX0_limbAt_18 (by decide) ?_
      exact hret (a_B_limbs (x1.toNatClampNeg)) hg _ _ _ _ hP hS dX0_limbAt_22

/-! SpokenClock$Fraction.limbOf(II)I -/
abbrev ws_X2_limbOf (cI cJ cZ cA : ClassId) (q_X_fraction q_X_fraction_below q_X_fraction_below_limbs q_X_fraction_above q_X_fraction_above_limbs : Nat) (u_X_fraction_term : Value) (a_X_fraction_below_limbs : Nat → Int32) (a_X_fraction_above_limbs : Nat → Int32) : va_W := [(q_X_fraction, .inr (2, [.ref q_X_fraction_above, .ref q_X_fraction_below, u_X_fraction_term])), (q_X_fraction_below, .inr (0, [.ref q_X_fraction_below_limbs])), (q_X_fraction_below_limbs, .inl (cI, 8, .inl a_X_fraction_below_limbs)), (q_X_fraction_above, .inr (0, [.ref q_X_fraction_above_limbs])), (q_X_fraction_above_limbs, .inl (cI, 8, .inl a_X_fraction_above_limbs))]
abbrev rm_X2_limbOf : Room := { frames := 2, cells := 0, slots := 0, locals := 42 }
def g_X2_limbOf (a_X_fraction_below_limbs : Nat → Int32) (a_X_fraction_above_limbs : Nat → Int32) (x1 : Int32) (x2 : Int32) : Option (Int32) :=
  if x1 = 0 then (
    (g_X0_limbAt a_X_fraction_above_limbs x2).bind fun v3 =>
    some (v3)
  ) else (
    (g_X0_limbAt a_X_fraction_below_limbs x2).bind fun v1 =>
    some (v1)
  )
theorem hd_X2_limbOf : yX2_limbOf.cls = RX2 ∧ yX2_limbOf.cls ≠ "java/lang/invoke/MethodHandle" ∧ yX2_limbOf.cls ≠ "java/lang/invoke/VarHandle" ∧ (parseMethodDescriptor yX2_limbOf.desc).map (fun d => d.parameters.length) = some 2 := by decide +kernel
set_option maxHeartbeats 4000000 in
set_option maxRecDepth 100000 in
theorem c_X2_limbOf (l : Launch) (D : va_G) (cI cJ cZ cA : ClassId) (ga : Nat → Nat) (q_X_fraction q_X_fraction_below q_X_fraction_below_limbs q_X_fraction_above q_X_fraction_above_limbs : Nat) (u_X_fraction_term : Value) (a_X_fraction_below_limbs : Nat → Int32) (a_X_fraction_above_limbs : Nat → Int32) (x1 : Int32) (x2 : Int32) (o : Int32) (hg : g_X2_limbOf a_X_fraction_below_limbs a_X_fraction_above_limbs x1 x2 = some o) : zM l yX2_limbOf (Cond.code yX2_limbOf cX2_limbOf 3 (some .int) :: wsL_law) rm_X2_limbOf D (zTy cI cJ cZ cA) ga [.ref q_X_fraction, .int x1, .int x2] (ws_X2_limbOf cI cJ cZ cA q_X_fraction q_X_fraction_below q_X_fraction_below_limbs q_X_fraction_above q_X_fraction_above_limbs u_X_fraction_term a_X_fraction_below_limbs a_X_fraction_above_limbs) (ws_X2_limbOf cI cJ cZ cA q_X_fraction q_X_fraction_below q_X_fraction_below_limbs q_X_fraction_above q_X_fraction_above_limbs u_X_fraction_term a_X_fraction_below_limbs a_X_fraction_above_limbs) (some (.int o)) := by
  refine zenterI (own := RX2) (by decide) rfl rfl (Nat.le_of_ble_eq_true rfl) ?_
  intro p e s m args below meth c A ls Q S hA hK hG hl hP hD hS hret0
  have hx := S.1
  have hb := S.2.1
  have ht : ∀ w, w ∈ wsL_law → w.before args s = true := fun w h => S.2.2.2.2 w (List.mem_cons_of_mem _ h)
  have hret : ∀ (r9 : Int32), (some (r9) : Option (Int32)) = some o → ∀ (H : Heap) (locs : List Loc) (pc : Nat) (ls : Array Slot), va_P D vwCl (ws_X2_limbOf cI cJ cZ cA q_X_fraction q_X_fraction_below q_X_fraction_below_limbs q_X_fraction_above q_X_fraction_above_limbs u_X_fraction_term a_X_fraction_below_limbs a_X_fraction_above_limbs) H → va_S A s.heap H locs → decode cX2_limbOf pc = .ok (.ireturn, 1) → W p l e rm_X2_limbOf s m args below meth c H locs 0 0 Q (F0 m pc ls [.int r9]) := by
    intro r9 he; cases he; exact hret0
  have hl : lv_has ls 3 [(0, .ref q_X_fraction), (1, .int x1), (2, .int x2)] := hl
  refine lv_iload_n hx hb dX2_limbOf_0 rfl (lv_at hl 1 rfl) ?_
  refine lv_if_ne (tgt := 15) hx hb dX2_limbOf_1 (by decide) (fun h1 => ?_) (fun h1 => ?_)
  · have hg := zn hg h1
    refine lv_aload_n hx hb dX2_limbOf_15 rfl (lv_at hl 0 rfl) ?_
    refine zget (C := RX2) (T := TX2) (N := 3) S hK hP 0 rfl rfl 1 (Nat.le_of_ble_eq_true rfl) zf_2 zw_69 rfl dX2_limbOf_16 ?_
    refine lv_iload_n hx hb dX2_limbOf_19 rfl (lv_at hl 2 rfl) ?_
    obtain ⟨v1, hc2, hg⟩ := zbd hg
    refine zcallV (rest := []) S (c_X0_limbAt l D cI cJ cZ cA ga q_X_fraction_below q_X_fraction_below_limbs a_X_fraction_below_limbs x2 v1 hc2) (zgV zw_1003 zw_1004 zw_1005 zw_67 zw_1006) rfl hd_X0_limbAt ⟨rfl, rfl⟩ ⟨Nat.le_of_ble_eq_true rfl, Nat.le_of_ble_eq_true rfl⟩ 1 0 rfl rfl rfl hl.1 rfl (Nat.le_of_ble_eq_true rfl) dX2_limbOf_20 hP hD hS hA hK hG (isC := [1, 2]) rfl rfl rfl (w2 := (ws_X2_limbOf cI cJ cZ cA q_X_fraction q_X_fraction_below q_X_fraction_below_limbs q_X_fraction_above q_X_fraction_above_limbs u_X_fraction_term a_X_fraction_below_limbs a_X_fraction_above_limbs)) rfl (st1 := [.int v1]) rfl (fun H locs hP hD hS => ?_)
    exact hret v1 hg _ _ _ _ hP hS dX2_limbOf_23
  · have hg := zp hg h1
    refine lv_aload_n hx hb dX2_limbOf_4 rfl (lv_at hl 0 rfl) ?_
    refine zget (C := RX2) (T := TX2) (N := 3) S hK hP 0 rfl rfl 0 (Nat.le_of_ble_eq_true rfl) zf_2 zw_68 rfl dX2_limbOf_5 ?_
    refine lv_iload_n hx hb dX2_limbOf_8 rfl (lv_at hl 2 rfl) ?_
    obtain ⟨v3, hc4, hg⟩ := zbd hg
    refine zcallV (rest := []) S (c_X0_limbAt l D cI cJ cZ cA ga q_X_fraction_above q_X_fraction_above_limbs a_X_fraction_above_limbs x2 v3 hc4) (zgV zw_1003 zw_1004 zw_1005 zw_67 zw_1006) rfl hd_X0_limbAt ⟨rfl, rfl⟩ ⟨Nat.le_of_ble_eq_true rfl, Nat.le_of_ble_eq_true rfl⟩ 3 0 rfl rfl rfl hl.1 rfl (Nat.le_of_ble_eq_true rfl) dX2_limbOf_9 hP hD hS hA hK hG (isC := [3, 4]) rfl rfl rfl (w2 := (ws_X2_limbOf cI cJ cZ cA q_X_fraction q_X_fraction_below q_X_fraction_below_limbs q_X_fraction_above q_X_fraction_above_limbs u_X_fraction_term a_X_fraction_below_limbs a_X_fraction_above_limbs)) rfl (st1 := [.int v3]) rfl (fun H locs hP hD hS => ?_)
    refine lv_goto (tgt := 23) hx hb dX2_limbOf_12 (by decide) ?_
    exact hret v3 hg _ _ _ _ hP hS dX2_limbOf_23

/-! SpokenClock.limb(II)I -/
abbrev ws_X10_limb (cI cJ cZ cA : ClassId) (q_X q_X_refusals q_X_fraction q_X_fraction_below q_X_fraction_below_limbs q_X_fraction_above q_X_fraction_above_limbs : Nat) (u_X_now : Value) (u_X_draft : Value) (u_X_text : Value) (u_X_reader : Value) (u_X_rule : Value) (u_X_day : Value) (u_X_plan : Value) (u_X_guess : Value) (u_X_quarrel : Value) (u_X_firstImage : Value) (u_X_secondImage : Value) (u_X_kept : Value) (u_X_fraction_term : Value) (a_X_refusals : Nat → Int32) (a_X_fraction_below_limbs : Nat → Int32) (a_X_fraction_above_limbs : Nat → Int32) : va_W := [(q_X, .inr (10, [u_X_now, u_X_draft, u_X_text, u_X_reader, u_X_rule, u_X_day, u_X_plan, u_X_guess, u_X_quarrel, .ref q_X_fraction, u_X_firstImage, u_X_secondImage, u_X_kept, .ref q_X_refusals])), (q_X_refusals, .inl (cI, 3, .inl a_X_refusals)), (q_X_fraction, .inr (2, [.ref q_X_fraction_above, .ref q_X_fraction_below, u_X_fraction_term])), (q_X_fraction_below, .inr (0, [.ref q_X_fraction_below_limbs])), (q_X_fraction_below_limbs, .inl (cI, 8, .inl a_X_fraction_below_limbs)), (q_X_fraction_above, .inr (0, [.ref q_X_fraction_above_limbs])), (q_X_fraction_above_limbs, .inl (cI, 8, .inl a_X_fraction_above_limbs))]
abbrev rm_X10_limb : Room := { frames := 3, cells := 0, slots := 0, locals := 64 }
def g_X10_limb_13 (a_X_fraction_below_limbs : Nat → Int32) (a_X_fraction_above_limbs : Nat → Int32) (x1 : Int32) (x2 : Int32) (a_X_refusals : Nat → Int32) : Option (Int32 × (Nat → Int32)) :=
  (g_X10_refuse (-2) a_X_refusals).bind fun v3 =>
  some (v3.1, v3.2)
def g_X10_limb (a_X_fraction_below_limbs : Nat → Int32) (a_X_fraction_above_limbs : Nat → Int32) (x1 : Int32) (x2 : Int32) (a_X_refusals : Nat → Int32) : Option (Int32 × (Nat → Int32)) :=
  (g_X10_isIn x1 0 1).bind fun v1 =>
  if v1 = 0 then (
    g_X10_limb_13 a_X_fraction_below_limbs a_X_fraction_above_limbs x1 x2 a_X_refusals
  ) else (
    if 0 ≤ x2 then (
      (g_X2_limbOf a_X_fraction_below_limbs a_X_fraction_above_limbs x1 x2).bind fun v5 =>
      some (v5, a_X_refusals)
    ) else (
      g_X10_limb_13 a_X_fraction_below_limbs a_X_fraction_above_limbs x1 x2 a_X_refusals
    )
  )
theorem hd_X10_limb : yX10_limb.cls = RX10 ∧ yX10_limb.cls ≠ "java/lang/invoke/MethodHandle" ∧ yX10_limb.cls ≠ "java/lang/invoke/VarHandle" ∧ (parseMethodDescriptor yX10_limb.desc).map (fun d => d.parameters.length) = some 2 := by decide +kernel
set_option maxHeartbeats 4000000 in
set_option maxRecDepth 100000 in
theorem c_X10_limb (l : Launch) (D : va_G) (cI cJ cZ cA : ClassId) (ga : Nat → Nat) (q_X q_X_refusals q_X_fraction q_X_fraction_below q_X_fraction_below_limbs q_X_fraction_above q_X_fraction_above_limbs : Nat) (u_X_now : Value) (u_X_draft : Value) (u_X_text : Value) (u_X_reader : Value) (u_X_rule : Value) (u_X_day : Value) (u_X_plan : Value) (u_X_guess : Value) (u_X_quarrel : Value) (u_X_firstImage : Value) (u_X_secondImage : Value) (u_X_kept : Value) (u_X_fraction_term : Value) (a_X_refusals : Nat → Int32) (a_X_fraction_below_limbs : Nat → Int32) (a_X_fraction_above_limbs : Nat → Int32) (x1 : Int32) (x2 : Int32) (o : Int32 × (Nat → Int32)) (hg : g_X10_limb a_X_fraction_below_limbs a_X_fraction_above_limbs x1 x2 a_X_refusals = some o) : zM l yX10_limb (Cond.code yX10_limb cX10_limb 3 (some .int) :: wsL_law) rm_X10_limb D (zTy cI cJ cZ cA) ga [.ref q_X, .int x1, .int x2] (ws_X10_limb cI cJ cZ cA q_X q_X_refusals q_X_fraction q_X_fraction_below q_X_fraction_below_limbs q_X_fraction_above q_X_fraction_above_limbs u_X_now u_X_draft u_X_text u_X_reader u_X_rule u_X_day u_X_plan u_X_guess u_X_quarrel u_X_firstImage u_X_secondImage u_X_kept u_X_fraction_term a_X_refusals a_X_fraction_below_limbs a_X_fraction_above_limbs) (ws_X10_limb cI cJ cZ cA q_X q_X_refusals q_X_fraction q_X_fraction_below q_X_fraction_below_limbs q_X_fraction_above q_X_fraction_above_limbs u_X_now u_X_draft u_X_text u_X_reader u_X_rule u_X_day u_X_plan u_X_guess u_X_quarrel u_X_firstImage u_X_secondImage u_X_kept u_X_fraction_term o.2 a_X_fraction_below_limbs a_X_fraction_above_limbs) (some (.int o.1)) := by
  refine zenterI (own := RX10) (by decide) rfl rfl (Nat.le_of_ble_eq_true rfl) ?_
  intro p e s m args below meth c A ls Q S hA hK hG hl hP hD hS hret0
  have hx := S.1
  have hb := S.2.1
  have ht : ∀ w, w ∈ wsL_law → w.before args s = true := fun w h => S.2.2.2.2 w (List.mem_cons_of_mem _ h)
  have hret : ∀ (r9 : Int32) (a_X_refusals : Nat → Int32), (some (r9, a_X_refusals) : Option (Int32 × (Nat → Int32))) = some o → ∀ (H : Heap) (locs : List Loc) (pc : Nat) (ls : Array Slot), va_P D vwCl (ws_X10_limb cI cJ cZ cA q_X q_X_refusals q_X_fraction q_X_fraction_below q_X_fraction_below_limbs q_X_fraction_above q_X_fraction_above_limbs u_X_now u_X_draft u_X_text u_X_reader u_X_rule u_X_day u_X_plan u_X_guess u_X_quarrel u_X_firstImage u_X_secondImage u_X_kept u_X_fraction_term a_X_refusals a_X_fraction_below_limbs a_X_fraction_above_limbs) H → va_S A s.heap H locs → decode cX10_limb pc = .ok (.ireturn, 1) → W p l e rm_X10_limb s m args below meth c H locs 0 0 Q (F0 m pc ls [.int r9]) := by
    intro r9 a_X_refusals he; cases he; exact hret0
  have hl : lv_has ls 3 [(0, .ref q_X), (1, .int x1), (2, .int x2)] := hl
  have B13 : ∀ (a_X_refusals : Nat → Int32) (H : Heap) (locs : List Loc) (ls : Array Slot) (hl : lv_has ls 3 [(0, .ref q_X)]) (hP : va_P D vwCl (ws_X10_limb cI cJ cZ cA q_X q_X_refusals q_X_fraction q_X_fraction_below q_X_fraction_below_limbs q_X_fraction_above q_X_fraction_above_limbs u_X_now u_X_draft u_X_text u_X_reader u_X_rule u_X_day u_X_plan u_X_guess u_X_quarrel u_X_firstImage u_X_secondImage u_X_kept u_X_fraction_term a_X_refusals a_X_fraction_below_limbs a_X_fraction_above_limbs) H) (hD : va_D A (ws_X10_limb cI cJ cZ cA q_X q_X_refusals q_X_fraction q_X_fraction_below q_X_fraction_below_limbs q_X_fraction_above q_X_fraction_above_limbs u_X_now u_X_draft u_X_text u_X_reader u_X_rule u_X_day u_X_plan u_X_guess u_X_quarrel u_X_firstImage u_X_secondImage u_X_kept u_X_fraction_term a_X_refusals a_X_fraction_below_limbs a_X_fraction_above_limbs)) (hS : va_S A s.heap H locs), g_X10_limb_13 a_X_fraction_below_limbs a_X_fraction_above_limbs x1 x2 a_X_refusals = some o → W p l e rm_X10_limb s m args below meth c H locs 0 0 Q (F0 m 13 ls []) := by
    intro  a_X_refusals H locs ls hl hP hD hS hg
    refine lv_aload_n hx hb dX10_limb_13 rfl (lv_at hl 0 rfl) ?_
    refine lv_bipush (v := (-2)) hx hb dX10_limb_14 (by decide) ?_
    obtain ⟨v3, hc4, hg⟩ := zbd hg
    refine zcallV (rest := []) S (c_X10_refuse l D cI cJ cZ cA ga q_X q_X_refusals u_X_now u_X_draft u_X_text u_X_reader u_X_rule u_X_day u_X_plan u_X_guess u_X_quarrel (.ref q_X_fraction) u_X_firstImage u_X_secondImage u_X_kept a_X_refusals (-2) v3 hc4) (zgV zw_184 zw_185 zw_186 zw_2 zw_187) rfl hd_X10_refuse ⟨rfl, rfl⟩ ⟨Nat.le_of_ble_eq_true rfl, Nat.le_of_ble_eq_true rfl⟩ 0 10 rfl rfl rfl hl.1 rfl (Nat.le_of_ble_eq_true rfl) dX10_limb_16 hP hD hS hA hK hG (isC := [0, 1]) rfl rfl rfl (w2 := (ws_X10_limb cI cJ cZ cA q_X q_X_refusals q_X_fraction q_X_fraction_below q_X_fraction_below_limbs q_X_fraction_above q_X_fraction_above_limbs u_X_now u_X_draft u_X_text u_X_reader u_X_rule u_X_day u_X_plan u_X_guess u_X_quarrel u_X_firstImage u_X_secondImage u_X_kept u_X_fraction_term v3.2 a_X_fraction_below_limbs a_X_fraction_above_limbs)) rfl (st1 := [.int v3.1]) rfl (fun H locs hP hD hS => ?_)
    exact hret v3.1 v3.2 hg _ _ _ _ hP hS dX10_limb_19
  refine lv_iload_n hx hb dX10_limb_0 rfl (lv_at hl 1 rfl) ?_
  refine lv_iconst (v := 0) hx hb dX10_limb_1 (by decide) ?_
  refine lv_iconst (v := 1) hx hb dX10_limb_2 (by decide) ?_
  obtain ⟨v1, hc2, hg⟩ := zbd hg
  refine zcallS (rest := []) S (c_X10_isIn l D cI cJ cZ cA ga x1 0 1 v1 hc2) (zgS zw_188 zw_189 zw_2 zw_190) rfl hd_X10_isIn ⟨rfl, rfl⟩ ⟨Nat.le_of_ble_eq_true rfl, Nat.le_of_ble_eq_true rfl⟩ rfl hl.1 rfl (Nat.le_of_ble_eq_true rfl) dX10_limb_3 hP hD hS hA hK hG (isC := []) rfl rfl rfl (w2 := (ws_X10_limb cI cJ cZ cA q_X q_X_refusals q_X_fraction q_X_fraction_below q_X_fraction_below_limbs q_X_fraction_above q_X_fraction_above_limbs u_X_now u_X_draft u_X_text u_X_reader u_X_rule u_X_day u_X_plan u_X_guess u_X_quarrel u_X_firstImage u_X_secondImage u_X_kept u_X_fraction_term a_X_refusals a_X_fraction_below_limbs a_X_fraction_above_limbs)) rfl (st1 := [.int v1]) rfl (fun H locs hP hD hS => ?_)
  refine lv_if_eq (tgt := 13) hx hb dX10_limb_6 (by decide) (fun h6 => ?_) (fun h6 => ?_)
  · have hg := zp hg h6
    exact B13 a_X_refusals _ _ _ (lv_sub hl [0] rfl) hP hD hS hg
  · have hg := zn hg h6
    refine lv_iload_n hx hb dX10_limb_9 rfl (lv_at hl 2 rfl) ?_
    refine lv_if_ge (tgt := 20) hx hb dX10_limb_10 (by decide) (fun h10 => ?_) (fun h10 => ?_)
    · have hg := zp hg h10
      refine lv_aload_n hx hb dX10_limb_20 rfl (lv_at hl 0 rfl) ?_
      refine zget (C := RX10) (T := TX10) (N := 14) S hK hP 0 rfl rfl 9 (Nat.le_of_ble_eq_true rfl) zf_10 zw_20 rfl dX10_limb_21 ?_
      refine lv_iload_n hx hb dX10_limb_24 rfl (lv_at hl 1 rfl) ?_
      refine lv_iload_n hx hb dX10_limb_25 rfl (lv_at hl 2 rfl) ?_
      obtain ⟨v5, hc6, hg⟩ := zbd hg
      refine zcallV (rest := []) S (c_X2_limbOf l D cI cJ cZ cA ga q_X_fraction q_X_fraction_below q_X_fraction_below_limbs q_X_fraction_above q_X_fraction_above_limbs u_X_fraction_term a_X_fraction_below_limbs a_X_fraction_above_limbs x1 x2 v5 hc6) (zgV zw_999 zw_1000 zw_1001 zw_19 zw_1002) rfl hd_X2_limbOf ⟨rfl, rfl⟩ ⟨Nat.le_of_ble_eq_true rfl, Nat.le_of_ble_eq_true rfl⟩ 2 2 rfl rfl rfl hl.1 rfl (Nat.le_of_ble_eq_true rfl) dX10_limb_26 hP hD hS hA hK hG (isC := [2, 3, 4, 5, 6]) rfl rfl rfl (w2 := (ws_X10_limb cI cJ cZ cA q_X q_X_refusals q_X_fraction q_X_fraction_below q_X_fraction_below_limbs q_X_fraction_above q_X_fraction_above_limbs u_X_now u_X_draft u_X_text u_X_reader u_X_rule u_X_day u_X_plan u_X_guess u_X_quarrel u_X_firstImage u_X_secondImage u_X_kept u_X_fraction_term a_X_refusals a_X_fraction_below_limbs a_X_fraction_above_limbs)) rfl (st1 := [.int v5]) rfl (fun H locs hP hD hS => ?_)
      exact hret v5 a_X_refusals hg _ _ _ _ hP hS dX10_limb_29
    · have hg := zn hg h10
      exact B13 a_X_refusals _ _ _ (lv_sub hl [0] rfl) hP hD hS hg

/-! SpokenClock.imageOf(I)LSpokenClock$State; -/
abbrev ws_X10_imageOf (cI cJ cZ cA : ClassId) (q_X q_X_secondImage q_X_firstImage : Nat) (u_X_now : Value) (u_X_draft : Value) (u_X_text : Value) (u_X_reader : Value) (u_X_rule : Value) (u_X_day : Value) (u_X_plan : Value) (u_X_guess : Value) (u_X_quarrel : Value) (u_X_fraction : Value) (u_X_kept : Value) (u_X_refusals : Value) : va_W := [(q_X, .inr (10, [u_X_now, u_X_draft, u_X_text, u_X_reader, u_X_rule, u_X_day, u_X_plan, u_X_guess, u_X_quarrel, u_X_fraction, .ref q_X_firstImage, .ref q_X_secondImage, u_X_kept, u_X_refusals]))]
abbrev rm_X10_imageOf : Room := { frames := 0, cells := 0, slots := 0, locals := 0 }
def g_X10_imageOf_15 (x1 : Int32) : Option (Nat) :=
  some (0)
def g_X10_imageOf_15a (x1 : Int32) : Option (Nat) :=
  some (1)
def g_X10_imageOf (x1 : Int32) : Option (Nat) :=
  if x1 = 0 then (
    g_X10_imageOf_15a x1
  ) else (
    g_X10_imageOf_15 x1
  )
theorem hd_X10_imageOf : yX10_imageOf.cls = RX10 ∧ yX10_imageOf.cls ≠ "java/lang/invoke/MethodHandle" ∧ yX10_imageOf.cls ≠ "java/lang/invoke/VarHandle" ∧ (parseMethodDescriptor yX10_imageOf.desc).map (fun d => d.parameters.length) = some 1 := by decide +kernel
set_option maxHeartbeats 4000000 in
set_option maxRecDepth 100000 in
theorem c_X10_imageOf (l : Launch) (D : va_G) (cI cJ cZ cA : ClassId) (ga : Nat → Nat) (q_X q_X_secondImage q_X_firstImage : Nat) (u_X_now : Value) (u_X_draft : Value) (u_X_text : Value) (u_X_reader : Value) (u_X_rule : Value) (u_X_day : Value) (u_X_plan : Value) (u_X_guess : Value) (u_X_quarrel : Value) (u_X_fraction : Value) (u_X_kept : Value) (u_X_refusals : Value) (x1 : Int32) (o : Nat) (hg : g_X10_imageOf x1 = some o) : zM l yX10_imageOf (Cond.code yX10_imageOf cX10_imageOf 2 (some (.object "SpokenClock$State")) :: wsL_law) rm_X10_imageOf D (zTy cI cJ cZ cA) ga [.ref q_X, .int x1] (ws_X10_imageOf cI cJ cZ cA q_X q_X_secondImage q_X_firstImage u_X_now u_X_draft u_X_text u_X_reader u_X_rule u_X_day u_X_plan u_X_guess u_X_quarrel u_X_fraction u_X_kept u_X_refusals) (ws_X10_imageOf cI cJ cZ cA q_X q_X_secondImage q_X_firstImage u_X_now u_X_draft u_X_text u_X_reader u_X_rule u_X_day u_X_plan u_X_guess u_X_quarrel u_X_fraction u_X_kept u_X_refusals) (some (.ref ([q_X_secondImage, q_X_firstImage].getD o 0))) := by
  refine zenterA (own := RX10) (by decide) rfl rfl (Nat.le_of_ble_eq_true rfl) ?_
  intro p e s m args below meth c A ls Q S hA hK hG hl hP hD hS hret0
  have hx := S.1
  have hb := S.2.1
  have ht : ∀ w, w ∈ wsL_law → w.before args s = true := fun w h => S.2.2.2.2 w (List.mem_cons_of_mem _ h)
  have hret : ∀ (r9 : Nat), (some (r9) : Option (Nat)) = some o → ∀ (H : Heap) (locs : List Loc) (pc : Nat) (ls : Array Slot), va_P D vwCl (ws_X10_imageOf cI cJ cZ cA q_X q_X_secondImage q_X_firstImage u_X_now u_X_draft u_X_text u_X_reader u_X_rule u_X_day u_X_plan u_X_guess u_X_quarrel u_X_fraction u_X_kept u_X_refusals) H → va_S A s.heap H locs → decode cX10_imageOf pc = .ok (.areturn, 1) → W p l e rm_X10_imageOf s m args below meth c H locs 0 0 Q (F0 m pc ls [.ref ([q_X_secondImage, q_X_firstImage].getD r9 0)]) := by
    intro r9 he; cases he; exact hret0
  have hl : lv_has ls 2 [(0, .ref q_X), (1, .int x1)] := hl
  have B15 : ∀  (H : Heap) (locs : List Loc) (ls : Array Slot) (hl : lv_has ls 2 []) (hP : va_P D vwCl (ws_X10_imageOf cI cJ cZ cA q_X q_X_secondImage q_X_firstImage u_X_now u_X_draft u_X_text u_X_reader u_X_rule u_X_day u_X_plan u_X_guess u_X_quarrel u_X_fraction u_X_kept u_X_refusals) H) (hD : va_D A (ws_X10_imageOf cI cJ cZ cA q_X q_X_secondImage q_X_firstImage u_X_now u_X_draft u_X_text u_X_reader u_X_rule u_X_day u_X_plan u_X_guess u_X_quarrel u_X_fraction u_X_kept u_X_refusals)) (hS : va_S A s.heap H locs), g_X10_imageOf_15 x1 = some o → W p l e rm_X10_imageOf s m args below meth c H locs 0 0 Q (F0 m 15 ls [.ref q_X_secondImage]) := by
    intro   H locs ls hl hP hD hS hg
    exact hret 0 hg _ _ _ _ hP hS dX10_imageOf_15
  have B15a : ∀  (H : Heap) (locs : List Loc) (ls : Array Slot) (hl : lv_has ls 2 []) (hP : va_P D vwCl (ws_X10_imageOf cI cJ cZ cA q_X q_X_secondImage q_X_firstImage u_X_now u_X_draft u_X_text u_X_reader u_X_rule u_X_day u_X_plan u_X_guess u_X_quarrel u_X_fraction u_X_kept u_X_refusals) H) (hD : va_D A (ws_X10_imageOf cI cJ cZ cA q_X q_X_secondImage q_X_firstImage u_X_now u_X_draft u_X_text u_X_reader u_X_rule u_X_day u_X_plan u_X_guess u_X_quarrel u_X_fraction u_X_kept u_X_refusals)) (hS : va_S A s.heap H locs), g_X10_imageOf_15a x1 = some o → W p l e rm_X10_imageOf s m args below meth c H locs 0 0 Q (F0 m 15 ls [.ref q_X_firstImage]) := by
    intro   H locs ls hl hP hD hS hg
    exact hret 1 hg _ _ _ _ hP hS dX10_imageOf_15
  refine lv_iload_n hx hb dX10_imageOf_0 rfl (lv_at hl 1 rfl) ?_
  refine lv_if_ne (tgt := 11) hx hb dX10_imageOf_1 (by decide) (fun h1 => ?_) (fun h1 => ?_)
  · have hg := zn hg h1
    refine lv_aload_n hx hb dX10_imageOf_11 rfl (lv_at hl 0 rfl) ?_
    refine zget (C := RX10) (T := TX10) (N := 14) S hK hP 0 rfl rfl 11 (Nat.le_of_ble_eq_true rfl) zf_10 zw_25 rfl dX10_imageOf_12 ?_
    exact B15  _ _ _ (lv_sub hl [] rfl) hP hD hS hg
  · have hg := zp hg h1
    refine lv_aload_n hx hb dX10_imageOf_4 rfl (lv_at hl 0 rfl) ?_
    refine zget (C := RX10) (T := TX10) (N := 14) S hK hP 0 rfl rfl 10 (Nat.le_of_ble_eq_true rfl) zf_10 zw_24 rfl dX10_imageOf_5 ?_
    refine lv_goto (tgt := 15) hx hb dX10_imageOf_8 (by decide) ?_
    exact B15a  _ _ _ (lv_sub hl [] rfl) hP hD hS hg

/-! SpokenClock.status(I)I -/
abbrev ws_X10_status (cI cJ cZ cA : ClassId) (q_X q_X_refusals : Nat) (u_X_now : Value) (u_X_draft : Value) (u_X_text : Value) (u_X_reader : Value) (u_X_rule : Value) (u_X_day : Value) (u_X_plan : Value) (u_X_guess : Value) (u_X_quarrel : Value) (u_X_fraction : Value) (u_X_firstImage : Value) (u_X_secondImage : Value) (u_X_kept : Value) (a_X_refusals : Nat → Int32) : va_W := [(q_X, .inr (10, [u_X_now, u_X_draft, u_X_text, u_X_reader, u_X_rule, u_X_day, u_X_plan, u_X_guess, u_X_quarrel, u_X_fraction, u_X_firstImage, u_X_secondImage, u_X_kept, .ref q_X_refusals])), (q_X_refusals, .inl (cI, 3, .inl a_X_refusals))]
abbrev rm_X10_status : Room := { frames := 2, cells := 0, slots := 0, locals := 44 }
def g_X10_status (x1 : Int32) (a_X_refusals : Nat → Int32) : Option (Int32 × (Nat → Int32)) :=
  (g_X10_isIn x1 0 2).bind fun v1 =>
  if v1 = 0 then (
    (g_X10_refuse (-2) a_X_refusals).bind fun v4 =>
    some ((-1), v4.2)
  ) else (
    if x1 < 0 ∨ 3 ≤ x1.toNatClampNeg then none else
    some (a_X_refusals (x1.toNatClampNeg), a_X_refusals)
  )
theorem hd_X10_status : yX10_status.cls = RX10 ∧ yX10_status.cls ≠ "java/lang/invoke/MethodHandle" ∧ yX10_status.cls ≠ "java/lang/invoke/VarHandle" ∧ (parseMethodDescriptor yX10_status.desc).map (fun d => d.parameters.length) = some 1 := by decide +kernel
set_option maxHeartbeats 4000000 in
set_option maxRecDepth 100000 in
theorem c_X10_status (l : Launch) (D : va_G) (cI cJ cZ cA : ClassId) (ga : Nat → Nat) (q_X q_X_refusals : Nat) (u_X_now : Value) (u_X_draft : Value) (u_X_text : Value) (u_X_reader : Value) (u_X_rule : Value) (u_X_day : Value) (u_X_plan : Value) (u_X_guess : Value) (u_X_quarrel : Value) (u_X_fraction : Value) (u_X_firstImage : Value) (u_X_secondImage : Value) (u_X_kept : Value) (a_X_refusals : Nat → Int32) (x1 : Int32) (o : Int32 × (Nat → Int32)) (hg : g_X10_status x1 a_X_refusals = some o) : zM l yX10_status (Cond.code yX10_status cX10_status 2 (some .int) :: wsL_law) rm_X10_status D (zTy cI cJ cZ cA) ga [.ref q_X, .int x1] (ws_X10_status cI cJ cZ cA q_X q_X_refusals u_X_now u_X_draft u_X_text u_X_reader u_X_rule u_X_day u_X_plan u_X_guess u_X_quarrel u_X_fraction u_X_firstImage u_X_secondImage u_X_kept a_X_refusals) (ws_X10_status cI cJ cZ cA q_X q_X_refusals u_X_now u_X_draft u_X_text u_X_reader u_X_rule u_X_day u_X_plan u_X_guess u_X_quarrel u_X_fraction u_X_firstImage u_X_secondImage u_X_kept o.2) (some (.int o.1)) := by
  refine zenterI (own := RX10) (by decide) rfl rfl (Nat.le_of_ble_eq_true rfl) ?_
  intro p e s m args below meth c A ls Q S hA hK hG hl hP hD hS hret0
  have hx := S.1
  have hb := S.2.1
  have ht : ∀ w, w ∈ wsL_law → w.before args s = true := fun w h => S.2.2.2.2 w (List.mem_cons_of_mem _ h)
  have hret : ∀ (r9 : Int32) (a_X_refusals : Nat → Int32), (some (r9, a_X_refusals) : Option (Int32 × (Nat → Int32))) = some o → ∀ (H : Heap) (locs : List Loc) (pc : Nat) (ls : Array Slot), va_P D vwCl (ws_X10_status cI cJ cZ cA q_X q_X_refusals u_X_now u_X_draft u_X_text u_X_reader u_X_rule u_X_day u_X_plan u_X_guess u_X_quarrel u_X_fraction u_X_firstImage u_X_secondImage u_X_kept a_X_refusals) H → va_S A s.heap H locs → decode cX10_status pc = .ok (.ireturn, 1) → W p l e rm_X10_status s m args below meth c H locs 0 0 Q (F0 m pc ls [.int r9]) := by
    intro r9 a_X_refusals he; cases he; exact hret0
  have hl : lv_has ls 2 [(0, .ref q_X), (1, .int x1)] := hl
  refine lv_iload_n hx hb dX10_status_0 rfl (lv_at hl 1 rfl) ?_
  refine lv_iconst (v := 0) hx hb dX10_status_1 (by decide) ?_
  refine lv_iconst (v := 2) hx hb dX10_status_2 (by decide) ?_
  obtain ⟨v1, hc2, hg⟩ := zbd hg
  refine zcallS (rest := []) S (c_X10_isIn l D cI cJ cZ cA ga x1 0 2 v1 hc2) (zgS zw_188 zw_189 zw_2 zw_190) rfl hd_X10_isIn ⟨rfl, rfl⟩ ⟨Nat.le_of_ble_eq_true rfl, Nat.le_of_ble_eq_true rfl⟩ rfl hl.1 rfl (Nat.le_of_ble_eq_true rfl) dX10_status_3 hP hD hS hA hK hG (isC := []) rfl rfl rfl (w2 := (ws_X10_status cI cJ cZ cA q_X q_X_refusals u_X_now u_X_draft u_X_text u_X_reader u_X_rule u_X_day u_X_plan u_X_guess u_X_quarrel u_X_fraction u_X_firstImage u_X_secondImage u_X_kept a_X_refusals)) rfl (st1 := [.int v1]) rfl (fun H locs hP hD hS => ?_)
  refine lv_if_ne (tgt := 18) hx hb dX10_status_6 (by decide) (fun h6 => ?_) (fun h6 => ?_)
  · have hg := zn hg h6
    refine lv_aload_n hx hb dX10_status_18 rfl (lv_at hl 0 rfl) ?_
    refine zget (C := RX10) (T := TX10) (N := 14) S hK hP 0 rfl rfl 13 (Nat.le_of_ble_eq_true rfl) zf_10 zw_29 rfl dX10_status_19 ?_
    refine lv_iload_n hx hb dX10_status_22 rfl (lv_at hl 1 rfl) ?_
    obtain ⟨h3, hg⟩ := zck hg
    refine ziald hx hb hK hP 1 0 rfl rfl (j := (x1.toNatClampNeg)) h3 rfl dX10_status_23 ?_
    exact hret (a_X_refusals (x1.toNatClampNeg)) a_X_refusals hg _ _ _ _ hP hS dX10_status_24
  · have hg := zp hg h6
    refine lv_aload_n hx hb dX10_status_9 rfl (lv_at hl 0 rfl) ?_
    refine lv_bipush (v := (-2)) hx hb dX10_status_10 (by decide) ?_
    obtain ⟨v4, hc5, hg⟩ := zbd hg
    refine zcallV (rest := []) S (c_X10_refuse l D cI cJ cZ cA ga q_X q_X_refusals u_X_now u_X_draft u_X_text u_X_reader u_X_rule u_X_day u_X_plan u_X_guess u_X_quarrel u_X_fraction u_X_firstImage u_X_secondImage u_X_kept a_X_refusals (-2) v4 hc5) (zgV zw_184 zw_185 zw_186 zw_2 zw_187) rfl hd_X10_refuse ⟨rfl, rfl⟩ ⟨Nat.le_of_ble_eq_true rfl, Nat.le_of_ble_eq_true rfl⟩ 0 10 rfl rfl rfl hl.1 rfl (Nat.le_of_ble_eq_true rfl) dX10_status_12 hP hD hS hA hK hG (isC := [0, 1]) rfl rfl rfl (w2 := (ws_X10_status cI cJ cZ cA q_X q_X_refusals u_X_now u_X_draft u_X_text u_X_reader u_X_rule u_X_day u_X_plan u_X_guess u_X_quarrel u_X_fraction u_X_firstImage u_X_secondImage u_X_kept v4.2)) rfl (st1 := [.int v4.1]) rfl (fun H locs hP hD hS => ?_)
    refine lv_pop hx hb dX10_status_15 rfl ?_
    refine lv_iconst (v := (-1)) hx hb dX10_status_16 (by decide) ?_
    exact hret (-1) v4.2 hg _ _ _ _ hP hS dX10_status_17

/-! SpokenClock.sizeOf(I)I -/
abbrev ws_X10_sizeOf (cI cJ cZ cA : ClassId) (q_X q_X_now q_X_now_people q_X_now_talks q_X_now_dues q_X_now_sights q_X_text q_X_now_rule : Nat) (u_X_draft : Value) (u_X_reader : Value) (u_X_rule : Value) (u_X_day : Value) (u_X_plan : Value) (u_X_guess : Value) (u_X_quarrel : Value) (u_X_fraction : Value) (u_X_firstImage : Value) (u_X_secondImage : Value) (u_X_kept : Value) (u_X_refusals : Value) (u_X_now_settings : Value) (u_X_now_stake : Value) (u_X_now_people_width : Value) (u_X_now_people_limit : Value) (u_X_now_people_cells : Value) (u_X_now_talks_width : Value) (u_X_now_talks_limit : Value) (u_X_now_talks_cells : Value) (u_X_now_dues_width : Value) (u_X_now_dues_limit : Value) (u_X_now_dues_cells : Value) (u_X_now_sights_width : Value) (u_X_now_sights_limit : Value) (u_X_now_sights_cells : Value) (u_X_text_width : Value) (u_X_text_limit : Value) (u_X_text_cells : Value) (u_X_now_rule_width : Value) (u_X_now_rule_limit : Value) (u_X_now_rule_cells : Value) (v_X_now_people_size : Int32) (v_X_now_talks_size : Int32) (v_X_now_dues_size : Int32) (v_X_now_sights_size : Int32) (v_X_text_size : Int32) (v_X_now_rule_size : Int32) : va_W := [(q_X, .inr (10, [.ref q_X_now, u_X_draft, .ref q_X_text, u_X_reader, u_X_rule, u_X_day, u_X_plan, u_X_guess, u_X_quarrel, u_X_fraction, u_X_firstImage, u_X_secondImage, u_X_kept, u_X_refusals])), (q_X_now, .inr (9, [.ref q_X_now_people, .ref q_X_now_talks, .ref q_X_now_dues, .ref q_X_now_sights, .ref q_X_now_rule, u_X_now_settings, u_X_now_stake])), (q_X_now_people, .inr (7, [u_X_now_people_width, u_X_now_people_limit, u_X_now_people_cells, .int v_X_now_people_size])), (q_X_now_talks, .inr (7, [u_X_now_talks_width, u_X_now_talks_limit, u_X_now_talks_cells, .int v_X_now_talks_size])), (q_X_now_dues, .inr (7, [u_X_now_dues_width, u_X_now_dues_limit, u_X_now_dues_cells, .int v_X_now_dues_size])), (q_X_now_sights, .inr (7, [u_X_now_sights_width, u_X_now_sights_limit, u_X_now_sights_cells, .int v_X_now_sights_size])), (q_X_text, .inr (7, [u_X_text_width, u_X_text_limit, u_X_text_cells, .int v_X_text_size])), (q_X_now_rule, .inr (7, [u_X_now_rule_width, u_X_now_rule_limit, u_X_now_rule_cells, .int v_X_now_rule_size]))]
abbrev rm_X10_sizeOf : Room := { frames := 1, cells := 0, slots := 0, locals := 20 }
def g_X10_sizeOf (v_X_now_people_size : Int32) (v_X_now_talks_size : Int32) (v_X_now_dues_size : Int32) (v_X_now_sights_size : Int32) (v_X_text_size : Int32) (v_X_now_rule_size : Int32) (x1 : Int32) : Option (Int32) :=
  if x1 = 0 then (
    (g_X7_size v_X_now_people_size).bind fun v1 =>
    some (v1)
  ) else
  if x1 = 1 then (
    (g_X7_size v_X_now_talks_size).bind fun v3 =>
    some (v3)
  ) else
  if x1 = 2 then (
    (g_X7_size v_X_now_dues_size).bind fun v5 =>
    some (v5)
  ) else
  if x1 = 3 then (
    (g_X7_size v_X_now_sights_size).bind fun v7 =>
    some (v7)
  ) else
  if x1 = 4 then (
    (g_X7_size v_X_text_size).bind fun v9 =>
    some (v9)
  ) else
  (
    (g_X7_size v_X_now_rule_size).bind fun v11 =>
    some (v11)
  )
theorem hd_X10_sizeOf : yX10_sizeOf.cls = RX10 ∧ yX10_sizeOf.cls ≠ "java/lang/invoke/MethodHandle" ∧ yX10_sizeOf.cls ≠ "java/lang/invoke/VarHandle" ∧ (parseMethodDescriptor yX10_sizeOf.desc).map (fun d => d.parameters.length) = some 1 := by decide +kernel
set_option maxHeartbeats 4000000 in
set_option maxRecDepth 100000 in
theorem c_X10_sizeOf (l : Launch) (D : va_G) (cI cJ cZ cA : ClassId) (ga : Nat → Nat) (q_X q_X_now q_X_now_people q_X_now_talks q_X_now_dues q_X_now_sights q_X_text q_X_now_rule : Nat) (u_X_draft : Value) (u_X_reader : Value) (u_X_rule : Value) (u_X_day : Value) (u_X_plan : Value) (u_X_guess : Value) (u_X_quarrel : Value) (u_X_fraction : Value) (u_X_firstImage : Value) (u_X_secondImage : Value) (u_X_kept : Value) (u_X_refusals : Value) (u_X_now_settings : Value) (u_X_now_stake : Value) (u_X_now_people_width : Value) (u_X_now_people_limit : Value) (u_X_now_people_cells : Value) (u_X_now_talks_width : Value) (u_X_now_talks_limit : Value) (u_X_now_talks_cells : Value) (u_X_now_dues_width : Value) (u_X_now_dues_limit : Value) (u_X_now_dues_cells : Value) (u_X_now_sights_width : Value) (u_X_now_sights_limit : Value) (u_X_now_sights_cells : Value) (u_X_text_width : Value) (u_X_text_limit : Value) (u_X_text_cells : Value) (u_X_now_rule_width : Value) (u_X_now_rule_limit : Value) (u_X_now_rule_cells : Value) (v_X_now_people_size : Int32) (v_X_now_talks_size : Int32) (v_X_now_dues_size : Int32) (v_X_now_sights_size : Int32) (v_X_text_size : Int32) (v_X_now_rule_size : Int32) (x1 : Int32) (o : Int32) (hg : g_X10_sizeOf v_X_now_people_size v_X_now_talks_size v_X_now_dues_size v_X_now_sights_size v_X_text_size v_X_now_rule_size x1 = some o) : zM l yX10_sizeOf (Cond.code yX10_sizeOf cX10_sizeOf 2 (some .int) :: wsL_law) rm_X10_sizeOf D (zTy cI cJ cZ cA) ga [.ref q_X, .int x1] (ws_X10_sizeOf cI cJ cZ cA q_X q_X_now q_X_now_people q_X_now_talks q_X_now_dues q_X_now_sights q_X_text q_X_now_rule u_X_draft u_X_reader u_X_rule u_X_day u_X_plan u_X_guess u_X_quarrel u_X_fraction u_X_firstImage u_X_secondImage u_X_kept u_X_refusals u_X_now_settings u_X_now_stake u_X_now_people_width u_X_now_people_limit u_X_now_people_cells u_X_now_talks_width u_X_now_talks_limit u_X_now_talks_cells u_X_now_dues_width u_X_now_dues_limit u_X_now_dues_cells u_X_now_sights_width u_X_now_sights_limit u_X_now_sights_cells u_X_text_width u_X_text_limit u_X_text_cells u_X_now_rule_width u_X_now_rule_limit u_X_now_rule_cells v_X_now_people_size v_X_now_talks_size v_X_now_dues_size v_X_now_sights_size v_X_text_size v_X_now_rule_size) (ws_X10_sizeOf cI cJ cZ cA q_X q_X_now q_X_now_people q_X_now_talks q_X_now_dues q_X_now_sights q_X_text q_X_now_rule u_X_draft u_X_reader u_X_rule u_X_day u_X_plan u_X_guess u_X_quarrel u_X_fraction u_X_firstImage u_X_secondImage u_X_kept u_X_refusals u_X_now_settings u_X_now_stake u_X_now_people_width u_X_now_people_limit u_X_now_people_cells u_X_now_talks_width u_X_now_talks_limit u_X_now_talks_cells u_X_now_dues_width u_X_now_dues_limit u_X_now_dues_cells u_X_now_sights_width u_X_now_sights_limit u_X_now_sights_cells u_X_text_width u_X_text_limit u_X_text_cells u_X_now_rule_width u_X_now_rule_limit u_X_now_rule_cells v_X_now_people_size v_X_now_talks_size v_X_now_dues_size v_X_now_sights_size v_X_text_size v_X_now_rule_size) (some (.int o)) := by
  refine zenterI (own := RX10) (by decide) rfl rfl (Nat.le_of_ble_eq_true rfl) ?_
  intro p e s m args below meth c A ls Q S hA hK hG hl hP hD hS hret0
  have hx := S.1
  have hb := S.2.1
  have ht : ∀ w, w ∈ wsL_law → w.before args s = true := fun w h => S.2.2.2.2 w (List.mem_cons_of_mem _ h)
  have hret : ∀ (r9 : Int32), (some (r9) : Option (Int32)) = some o → ∀ (H : Heap) (locs : List Loc) (pc : Nat) (ls : Array Slot), va_P D vwCl (ws_X10_sizeOf cI cJ cZ cA q_X q_X_now q_X_now_people q_X_now_talks q_X_now_dues q_X_now_sights q_X_text q_X_now_rule u_X_draft u_X_reader u_X_rule u_X_day u_X_plan u_X_guess u_X_quarrel u_X_fraction u_X_firstImage u_X_secondImage u_X_kept u_X_refusals u_X_now_settings u_X_now_stake u_X_now_people_width u_X_now_people_limit u_X_now_people_cells u_X_now_talks_width u_X_now_talks_limit u_X_now_talks_cells u_X_now_dues_width u_X_now_dues_limit u_X_now_dues_cells u_X_now_sights_width u_X_now_sights_limit u_X_now_sights_cells u_X_text_width u_X_text_limit u_X_text_cells u_X_now_rule_width u_X_now_rule_limit u_X_now_rule_cells v_X_now_people_size v_X_now_talks_size v_X_now_dues_size v_X_now_sights_size v_X_text_size v_X_now_rule_size) H → va_S A s.heap H locs → decode cX10_sizeOf pc = .ok (.ireturn, 1) → W p l e rm_X10_sizeOf s m args below meth c H locs 0 0 Q (F0 m pc ls [.int r9]) := by
    intro r9 he; cases he; exact hret0
  have hl : lv_has ls 2 [(0, .ref q_X), (1, .int x1)] := hl
  refine lv_iload_n hx hb dX10_sizeOf_0 rfl (lv_at hl 1 rfl) ?_
  by_cases h1_0 : x1 = 0
  · have hg := zp hg h1_0
    refine lv_tableIn (tgt := 36) hx hb dX10_sizeOf_1 (by rw [h1_0]; decide) (by rw [h1_0]; decide) (by rw [h1_0]; rfl) (by decide) ?_
    refine lv_aload_n hx hb dX10_sizeOf_36 rfl (lv_at hl 0 rfl) ?_
    refine zget (C := RX10) (T := TX10) (N := 14) S hK hP 0 rfl rfl 0 (Nat.le_of_ble_eq_true rfl) zf_10 zw_51 rfl dX10_sizeOf_37 ?_
    refine zget (C := RX9) (T := TX9) (N := 7) S hK hP 1 rfl rfl 0 (Nat.le_of_ble_eq_true rfl) zf_9 zw_697 rfl dX10_sizeOf_40 ?_
    obtain ⟨v1, hc2, hg⟩ := zbd hg
    refine zcallV (rest := []) S (c_X7_size l D cI cJ cZ cA ga q_X_now_people u_X_now_people_width u_X_now_people_limit u_X_now_people_cells v_X_now_people_size v1 hc2) (zgV zw_298 zw_180 zw_181 zw_32 zw_182) rfl hd_X7_size ⟨rfl, rfl⟩ ⟨Nat.le_of_ble_eq_true rfl, Nat.le_of_ble_eq_true rfl⟩ 2 7 rfl rfl rfl hl.1 rfl (Nat.le_of_ble_eq_true rfl) dX10_sizeOf_43 hP hD hS hA hK hG (isC := [2]) rfl rfl rfl (w2 := (ws_X10_sizeOf cI cJ cZ cA q_X q_X_now q_X_now_people q_X_now_talks q_X_now_dues q_X_now_sights q_X_text q_X_now_rule u_X_draft u_X_reader u_X_rule u_X_day u_X_plan u_X_guess u_X_quarrel u_X_fraction u_X_firstImage u_X_secondImage u_X_kept u_X_refusals u_X_now_settings u_X_now_stake u_X_now_people_width u_X_now_people_limit u_X_now_people_cells u_X_now_talks_width u_X_now_talks_limit u_X_now_talks_cells u_X_now_dues_width u_X_now_dues_limit u_X_now_dues_cells u_X_now_sights_width u_X_now_sights_limit u_X_now_sights_cells u_X_text_width u_X_text_limit u_X_text_cells u_X_now_rule_width u_X_now_rule_limit u_X_now_rule_cells v_X_now_people_size v_X_now_talks_size v_X_now_dues_size v_X_now_sights_size v_X_text_size v_X_now_rule_size)) rfl (st1 := [.int v1]) rfl (fun H locs hP hD hS => ?_)
    exact hret v1 hg _ _ _ _ hP hS dX10_sizeOf_46
  · have hg := zn hg h1_0
    by_cases h1_1 : x1 = 1
    · have hg := zp hg h1_1
      refine lv_tableIn (tgt := 47) hx hb dX10_sizeOf_1 (by rw [h1_1]; decide) (by rw [h1_1]; decide) (by rw [h1_1]; rfl) (by decide) ?_
      refine lv_aload_n hx hb dX10_sizeOf_47 rfl (lv_at hl 0 rfl) ?_
      refine zget (C := RX10) (T := TX10) (N := 14) S hK hP 0 rfl rfl 0 (Nat.le_of_ble_eq_true rfl) zf_10 zw_51 rfl dX10_sizeOf_48 ?_
      refine zget (C := RX9) (T := TX9) (N := 7) S hK hP 1 rfl rfl 1 (Nat.le_of_ble_eq_true rfl) zf_9 zw_1048 rfl dX10_sizeOf_51 ?_
      obtain ⟨v3, hc4, hg⟩ := zbd hg
      refine zcallV (rest := []) S (c_X7_size l D cI cJ cZ cA ga q_X_now_talks u_X_now_talks_width u_X_now_talks_limit u_X_now_talks_cells v_X_now_talks_size v3 hc4) (zgV zw_298 zw_180 zw_181 zw_32 zw_182) rfl hd_X7_size ⟨rfl, rfl⟩ ⟨Nat.le_of_ble_eq_true rfl, Nat.le_of_ble_eq_true rfl⟩ 3 7 rfl rfl rfl hl.1 rfl (Nat.le_of_ble_eq_true rfl) dX10_sizeOf_54 hP hD hS hA hK hG (isC := [3]) rfl rfl rfl (w2 := (ws_X10_sizeOf cI cJ cZ cA q_X q_X_now q_X_now_people q_X_now_talks q_X_now_dues q_X_now_sights q_X_text q_X_now_rule u_X_draft u_X_reader u_X_rule u_X_day u_X_plan u_X_guess u_X_quarrel u_X_fraction u_X_firstImage u_X_secondImage u_X_kept u_X_refusals u_X_now_settings u_X_now_stake u_X_now_people_width u_X_now_people_limit u_X_now_people_cells u_X_now_talks_width u_X_now_talks_limit u_X_now_talks_cells u_X_now_dues_width u_X_now_dues_limit u_X_now_dues_cells u_X_now_sights_width u_X_now_sights_limit u_X_now_sights_cells u_X_text_width u_X_text_limit u_X_text_cells u_X_now_rule_width u_X_now_rule_limit u_X_now_rule_cells v_X_now_people_size v_X_now_talks_size v_X_now_dues_size v_X_now_sights_size v_X_text_size v_X_now_rule_size)) rfl (st1 := [.int v3]) rfl (fun H locs hP hD hS => ?_)
      exact hret v3 hg _ _ _ _ hP hS dX10_sizeOf_57
    · have hg := zn hg h1_1
      by_cases h1_2 : x1 = 2
      · have hg := zp hg h1_2
        refine lv_tableIn (tgt := 58) hx hb dX10_sizeOf_1 (by rw [h1_2]; decide) (by rw [h1_2]; decide) (by rw [h1_2]; rfl) (by decide) ?_
        refine lv_aload_n hx hb dX10_sizeOf_58 rfl (lv_at hl 0 rfl) ?_
        refine zget (C := RX10) (T := TX10) (N := 14) S hK hP 0 rfl rfl 0 (Nat.le_of_ble_eq_true rfl) zf_10 zw_51 rfl dX10_sizeOf_59 ?_
        refine zget (C := RX9) (T := TX9) (N := 7) S hK hP 1 rfl rfl 2 (Nat.le_of_ble_eq_true rfl) zf_9 zw_755 rfl dX10_sizeOf_62 ?_
        obtain ⟨v5, hc6, hg⟩ := zbd hg
        refine zcallV (rest := []) S (c_X7_size l D cI cJ cZ cA ga q_X_now_dues u_X_now_dues_width u_X_now_dues_limit u_X_now_dues_cells v_X_now_dues_size v5 hc6) (zgV zw_298 zw_180 zw_181 zw_32 zw_182) rfl hd_X7_size ⟨rfl, rfl⟩ ⟨Nat.le_of_ble_eq_true rfl, Nat.le_of_ble_eq_true rfl⟩ 4 7 rfl rfl rfl hl.1 rfl (Nat.le_of_ble_eq_true rfl) dX10_sizeOf_65 hP hD hS hA hK hG (isC := [4]) rfl rfl rfl (w2 := (ws_X10_sizeOf cI cJ cZ cA q_X q_X_now q_X_now_people q_X_now_talks q_X_now_dues q_X_now_sights q_X_text q_X_now_rule u_X_draft u_X_reader u_X_rule u_X_day u_X_plan u_X_guess u_X_quarrel u_X_fraction u_X_firstImage u_X_secondImage u_X_kept u_X_refusals u_X_now_settings u_X_now_stake u_X_now_people_width u_X_now_people_limit u_X_now_people_cells u_X_now_talks_width u_X_now_talks_limit u_X_now_talks_cells u_X_now_dues_width u_X_now_dues_limit u_X_now_dues_cells u_X_now_sights_width u_X_now_sights_limit u_X_now_sights_cells u_X_text_width u_X_text_limit u_X_text_cells u_X_now_rule_width u_X_now_rule_limit u_X_now_rule_cells v_X_now_people_size v_X_now_talks_size v_X_now_dues_size v_X_now_sights_size v_X_text_size v_X_now_rule_size)) rfl (st1 := [.int v5]) rfl (fun H locs hP hD hS => ?_)
        exact hret v5 hg _ _ _ _ hP hS dX10_sizeOf_68
      · have hg := zn hg h1_2
        by_cases h1_3 : x1 = 3
        · have hg := zp hg h1_3
          refine lv_tableIn (tgt := 69) hx hb dX10_sizeOf_1 (by rw [h1_3]; decide) (by rw [h1_3]; decide) (by rw [h1_3]; rfl) (by decide) ?_
          refine lv_aload_n hx hb dX10_sizeOf_69 rfl (lv_at hl 0 rfl) ?_
          refine zget (C := RX10) (T := TX10) (N := 14) S hK hP 0 rfl rfl 0 (Nat.le_of_ble_eq_true rfl) zf_10 zw_51 rfl dX10_sizeOf_70 ?_
          refine zget (C := RX9) (T := TX9) (N := 7) S hK hP 1 rfl rfl 3 (Nat.le_of_ble_eq_true rfl) zf_9 zw_1049 rfl dX10_sizeOf_73 ?_
          obtain ⟨v7, hc8, hg⟩ := zbd hg
          refine zcallV (rest := []) S (c_X7_size l D cI cJ cZ cA ga q_X_now_sights u_X_now_sights_width u_X_now_sights_limit u_X_now_sights_cells v_X_now_sights_size v7 hc8) (zgV zw_298 zw_180 zw_181 zw_32 zw_182) rfl hd_X7_size ⟨rfl, rfl⟩ ⟨Nat.le_of_ble_eq_true rfl, Nat.le_of_ble_eq_true rfl⟩ 5 7 rfl rfl rfl hl.1 rfl (Nat.le_of_ble_eq_true rfl) dX10_sizeOf_76 hP hD hS hA hK hG (isC := [5]) rfl rfl rfl (w2 := (ws_X10_sizeOf cI cJ cZ cA q_X q_X_now q_X_now_people q_X_now_talks q_X_now_dues q_X_now_sights q_X_text q_X_now_rule u_X_draft u_X_reader u_X_rule u_X_day u_X_plan u_X_guess u_X_quarrel u_X_fraction u_X_firstImage u_X_secondImage u_X_kept u_X_refusals u_X_now_settings u_X_now_stake u_X_now_people_width u_X_now_people_limit u_X_now_people_cells u_X_now_talks_width u_X_now_talks_limit u_X_now_talks_cells u_X_now_dues_width u_X_now_dues_limit u_X_now_dues_cells u_X_now_sights_width u_X_now_sights_limit u_X_now_sights_cells u_X_text_width u_X_text_limit u_X_text_cells u_X_now_rule_width u_X_now_rule_limit u_X_now_rule_cells v_X_now_people_size v_X_now_talks_size v_X_now_dues_size v_X_now_sights_size v_X_text_size v_X_now_rule_size)) rfl (st1 := [.int v7]) rfl (fun H locs hP hD hS => ?_)
          exact hret v7 hg _ _ _ _ hP hS dX10_sizeOf_79
        · have hg := zn hg h1_3
          by_cases h1_4 : x1 = 4
          · have hg := zp hg h1_4
            refine lv_tableIn (tgt := 80) hx hb dX10_sizeOf_1 (by rw [h1_4]; decide) (by rw [h1_4]; decide) (by rw [h1_4]; rfl) (by decide) ?_
            refine lv_aload_n hx hb dX10_sizeOf_80 rfl (lv_at hl 0 rfl) ?_
            refine zget (C := RX10) (T := TX10) (N := 14) S hK hP 0 rfl rfl 2 (Nat.le_of_ble_eq_true rfl) zf_10 zw_53 rfl dX10_sizeOf_81 ?_
            obtain ⟨v9, hc10, hg⟩ := zbd hg
            refine zcallV (rest := []) S (c_X7_size l D cI cJ cZ cA ga q_X_text u_X_text_width u_X_text_limit u_X_text_cells v_X_text_size v9 hc10) (zgV zw_298 zw_180 zw_181 zw_32 zw_182) rfl hd_X7_size ⟨rfl, rfl⟩ ⟨Nat.le_of_ble_eq_true rfl, Nat.le_of_ble_eq_true rfl⟩ 6 7 rfl rfl rfl hl.1 rfl (Nat.le_of_ble_eq_true rfl) dX10_sizeOf_84 hP hD hS hA hK hG (isC := [6]) rfl rfl rfl (w2 := (ws_X10_sizeOf cI cJ cZ cA q_X q_X_now q_X_now_people q_X_now_talks q_X_now_dues q_X_now_sights q_X_text q_X_now_rule u_X_draft u_X_reader u_X_rule u_X_day u_X_plan u_X_guess u_X_quarrel u_X_fraction u_X_firstImage u_X_secondImage u_X_kept u_X_refusals u_X_now_settings u_X_now_stake u_X_now_people_width u_X_now_people_limit u_X_now_people_cells u_X_now_talks_width u_X_now_talks_limit u_X_now_talks_cells u_X_now_dues_width u_X_now_dues_limit u_X_now_dues_cells u_X_now_sights_width u_X_now_sights_limit u_X_now_sights_cells u_X_text_width u_X_text_limit u_X_text_cells u_X_now_rule_width u_X_now_rule_limit u_X_now_rule_cells v_X_now_people_size v_X_now_talks_size v_X_now_dues_size v_X_now_sights_size v_X_text_size v_X_now_rule_size)) rfl (st1 := [.int v9]) rfl (fun H locs hP hD hS => ?_)
            exact hret v9 hg _ _ _ _ hP hS dX10_sizeOf_87
          · have hg := zn hg h1_4
            refine lv_tableOut (tgt := 88) hx hb dX10_sizeOf_1 (by have a0 := lv_neT h1_0 (a := 0) (by decide); have a1 := lv_neT h1_1 (a := 1) (by decide); have a2 := lv_neT h1_2 (a := 2) (by decide); have a3 := lv_neT h1_3 (a := 3) (by decide); have a4 := lv_neT h1_4 (a := 4) (by decide); omega) (by decide) ?_
            refine lv_aload_n hx hb dX10_sizeOf_88 rfl (lv_at hl 0 rfl) ?_
            refine zget (C := RX10) (T := TX10) (N := 14) S hK hP 0 rfl rfl 0 (Nat.le_of_ble_eq_true rfl) zf_10 zw_51 rfl dX10_sizeOf_89 ?_
            refine zget (C := RX9) (T := TX9) (N := 7) S hK hP 1 rfl rfl 4 (Nat.le_of_ble_eq_true rfl) zf_9 zw_515 rfl dX10_sizeOf_92 ?_
            obtain ⟨v11, hc12, hg⟩ := zbd hg
            refine zcallV (rest := []) S (c_X7_size l D cI cJ cZ cA ga q_X_now_rule u_X_now_rule_width u_X_now_rule_limit u_X_now_rule_cells v_X_now_rule_size v11 hc12) (zgV zw_298 zw_180 zw_181 zw_32 zw_182) rfl hd_X7_size ⟨rfl, rfl⟩ ⟨Nat.le_of_ble_eq_true rfl, Nat.le_of_ble_eq_true rfl⟩ 7 7 rfl rfl rfl hl.1 rfl (Nat.le_of_ble_eq_true rfl) dX10_sizeOf_95 hP hD hS hA hK hG (isC := [7]) rfl rfl rfl (w2 := (ws_X10_sizeOf cI cJ cZ cA q_X q_X_now q_X_now_people q_X_now_talks q_X_now_dues q_X_now_sights q_X_text q_X_now_rule u_X_draft u_X_reader u_X_rule u_X_day u_X_plan u_X_guess u_X_quarrel u_X_fraction u_X_firstImage u_X_secondImage u_X_kept u_X_refusals u_X_now_settings u_X_now_stake u_X_now_people_width u_X_now_people_limit u_X_now_people_cells u_X_now_talks_width u_X_now_talks_limit u_X_now_talks_cells u_X_now_dues_width u_X_now_dues_limit u_X_now_dues_cells u_X_now_sights_width u_X_now_sights_limit u_X_now_sights_cells u_X_text_width u_X_text_limit u_X_text_cells u_X_now_rule_width u_X_now_rule_limit u_X_now_rule_cells v_X_now_people_size v_X_now_talks_size v_X_now_dues_size v_X_now_sights_size v_X_text_size v_X_now_rule_size)) rfl (st1 := [.int v11]) rfl (fun H locs hP hD hS => ?_)
            exact hret v11 hg _ _ _ _ hP hS dX10_sizeOf_98

/-! SpokenClock.count(I)I -/
abbrev ws_X10_count (cI cJ cZ cA : ClassId) (q_X q_X_now q_X_now_people q_X_now_talks q_X_now_dues q_X_now_sights q_X_text q_X_now_rule q_X_refusals : Nat) (u_X_draft : Value) (u_X_reader : Value) (u_X_rule : Value) (u_X_day : Value) (u_X_plan : Value) (u_X_guess : Value) (u_X_quarrel : Value) (u_X_fraction : Value) (u_X_firstImage : Value) (u_X_secondImage : Value) (u_X_kept : Value) (u_X_now_settings : Value) (u_X_now_stake : Value) (u_X_now_people_width : Value) (u_X_now_people_limit : Value) (u_X_now_people_cells : Value) (u_X_now_talks_width : Value) (u_X_now_talks_limit : Value) (u_X_now_talks_cells : Value) (u_X_now_dues_width : Value) (u_X_now_dues_limit : Value) (u_X_now_dues_cells : Value) (u_X_now_sights_width : Value) (u_X_now_sights_limit : Value) (u_X_now_sights_cells : Value) (u_X_text_width : Value) (u_X_text_limit : Value) (u_X_text_cells : Value) (u_X_now_rule_width : Value) (u_X_now_rule_limit : Value) (u_X_now_rule_cells : Value) (v_X_now_people_size : Int32) (v_X_now_talks_size : Int32) (v_X_now_dues_size : Int32) (v_X_now_sights_size : Int32) (v_X_text_size : Int32) (v_X_now_rule_size : Int32) (a_X_refusals : Nat → Int32) : va_W := [(q_X, .inr (10, [.ref q_X_now, u_X_draft, .ref q_X_text, u_X_reader, u_X_rule, u_X_day, u_X_plan, u_X_guess, u_X_quarrel, u_X_fraction, u_X_firstImage, u_X_secondImage, u_X_kept, .ref q_X_refusals])), (q_X_now, .inr (9, [.ref q_X_now_people, .ref q_X_now_talks, .ref q_X_now_dues, .ref q_X_now_sights, .ref q_X_now_rule, u_X_now_settings, u_X_now_stake])), (q_X_now_people, .inr (7, [u_X_now_people_width, u_X_now_people_limit, u_X_now_people_cells, .int v_X_now_people_size])), (q_X_now_talks, .inr (7, [u_X_now_talks_width, u_X_now_talks_limit, u_X_now_talks_cells, .int v_X_now_talks_size])), (q_X_now_dues, .inr (7, [u_X_now_dues_width, u_X_now_dues_limit, u_X_now_dues_cells, .int v_X_now_dues_size])), (q_X_now_sights, .inr (7, [u_X_now_sights_width, u_X_now_sights_limit, u_X_now_sights_cells, .int v_X_now_sights_size])), (q_X_text, .inr (7, [u_X_text_width, u_X_text_limit, u_X_text_cells, .int v_X_text_size])), (q_X_now_rule, .inr (7, [u_X_now_rule_width, u_X_now_rule_limit, u_X_now_rule_cells, .int v_X_now_rule_size])), (q_X_refusals, .inl (cI, 3, .inl a_X_refusals))]
abbrev rm_X10_count : Room := { frames := 2, cells := 0, slots := 0, locals := 44 }
def g_X10_count (v_X_now_people_size : Int32) (v_X_now_talks_size : Int32) (v_X_now_dues_size : Int32) (v_X_now_sights_size : Int32) (v_X_text_size : Int32) (v_X_now_rule_size : Int32) (x1 : Int32) (a_X_refusals : Nat → Int32) : Option (Int32 × (Nat → Int32)) :=
  (g_X10_isIn x1 0 5).bind fun v1 =>
  if v1 = 0 then (
    (g_X10_refuse (-2) a_X_refusals).bind fun v5 =>
    some (v5.1, v5.2)
  ) else (
    (g_X10_sizeOf v_X_now_people_size v_X_now_talks_size v_X_now_dues_size v_X_now_sights_size v_X_text_size v_X_now_rule_size x1).bind fun v3 =>
    some (v3, a_X_refusals)
  )
theorem hd_X10_count : yX10_count.cls = RX10 ∧ yX10_count.cls ≠ "java/lang/invoke/MethodHandle" ∧ yX10_count.cls ≠ "java/lang/invoke/VarHandle" ∧ (parseMethodDescriptor yX10_count.desc).map (fun d => d.parameters.length) = some 1 := by decide +kernel
set_option maxHeartbeats 4000000 in
set_option maxRecDepth 100000 in
theorem c_X10_count (l : Launch) (D : va_G) (cI cJ cZ cA : ClassId) (ga : Nat → Nat) (q_X q_X_now q_X_now_people q_X_now_talks q_X_now_dues q_X_now_sights q_X_text q_X_now_rule q_X_refusals : Nat) (u_X_draft : Value) (u_X_reader : Value) (u_X_rule : Value) (u_X_day : Value) (u_X_plan : Value) (u_X_guess : Value) (u_X_quarrel : Value) (u_X_fraction : Value) (u_X_firstImage : Value) (u_X_secondImage : Value) (u_X_kept : Value) (u_X_now_settings : Value) (u_X_now_stake : Value) (u_X_now_people_width : Value) (u_X_now_people_limit : Value) (u_X_now_people_cells : Value) (u_X_now_talks_width : Value) (u_X_now_talks_limit : Value) (u_X_now_talks_cells : Value) (u_X_now_dues_width : Value) (u_X_now_dues_limit : Value) (u_X_now_dues_cells : Value) (u_X_now_sights_width : Value) (u_X_now_sights_limit : Value) (u_X_now_sights_cells : Value) (u_X_text_width : Value) (u_X_text_limit : Value) (u_X_text_cells : Value) (u_X_now_rule_width : Value) (u_X_now_rule_limit : Value) (u_X_now_rule_cells : Value) (v_X_now_people_size : Int32) (v_X_now_talks_size : Int32) (v_X_now_dues_size : Int32) (v_X_now_sights_size : Int32) (v_X_text_size : Int32) (v_X_now_rule_size : Int32) (a_X_refusals : Nat → Int32) (x1 : Int32) (o : Int32 × (Nat → Int32)) (hg : g_X10_count v_X_now_people_size v_X_now_talks_size v_X_now_dues_size v_X_now_sights_size v_X_text_size v_X_now_rule_size x1 a_X_refusals = some o) : zM l yX10_count (Cond.code yX10_count cX10_count 2 (some .int) :: wsL_law) rm_X10_count D (zTy cI cJ cZ cA) ga [.ref q_X, .int x1] (ws_X10_count cI cJ cZ cA q_X q_X_now q_X_now_people q_X_now_talks q_X_now_dues q_X_now_sights q_X_text q_X_now_rule q_X_refusals u_X_draft u_X_reader u_X_rule u_X_day u_X_plan u_X_guess u_X_quarrel u_X_fraction u_X_firstImage u_X_secondImage u_X_kept u_X_now_settings u_X_now_stake u_X_now_people_width u_X_now_people_limit u_X_now_people_cells u_X_now_talks_width u_X_now_talks_limit u_X_now_talks_cells u_X_now_dues_width u_X_now_dues_limit u_X_now_dues_cells u_X_now_sights_width u_X_now_sights_limit u_X_now_sights_cells u_X_text_width u_X_text_limit u_X_text_cells u_X_now_rule_width u_X_now_rule_limit u_X_now_rule_cells v_X_now_people_size v_X_now_talks_size v_X_now_dues_size v_X_now_sights_size v_X_text_size v_X_now_rule_size a_X_refusals) (ws_X10_count cI cJ cZ cA q_X q_X_now q_X_now_people q_X_now_talks q_X_now_dues q_X_now_sights q_X_text q_X_now_rule q_X_refusals u_X_draft u_X_reader u_X_rule u_X_day u_X_plan u_X_guess u_X_quarrel u_X_fraction u_X_firstImage u_X_secondImage u_X_kept u_X_now_settings u_X_now_stake u_X_now_people_width u_X_now_people_limit u_X_now_people_cells u_X_now_talks_width u_X_now_talks_limit u_X_now_talks_cells u_X_now_dues_width u_X_now_dues_limit u_X_now_dues_cells u_X_now_sights_width u_X_now_sights_limit u_X_now_sights_cells u_X_text_width u_X_text_limit u_X_text_cells u_X_now_rule_width u_X_now_rule_limit u_X_now_rule_cells v_X_now_people_size v_X_now_talks_size v_X_now_dues_size v_X_now_sights_size v_X_text_size v_X_now_rule_size o.2) (some (.int o.1)) := by
  refine zenterI (own := RX10) (by decide) rfl rfl (Nat.le_of_ble_eq_true rfl) ?_
  intro p e s m args below meth c A ls Q S hA hK hG hl hP hD hS hret0
  have hx := S.1
  have hb := S.2.1
  have ht : ∀ w, w ∈ wsL_law → w.before args s = true := fun w h => S.2.2.2.2 w (List.mem_cons_of_mem _ h)
  have hret : ∀ (r9 : Int32) (a_X_refusals : Nat → Int32), (some (r9, a_X_refusals) : Option (Int32 × (Nat → Int32))) = some o → ∀ (H : Heap) (locs : List Loc) (pc : Nat) (ls : Array Slot), va_P D vwCl (ws_X10_count cI cJ cZ cA q_X q_X_now q_X_now_people q_X_now_talks q_X_now_dues q_X_now_sights q_X_text q_X_now_rule q_X_refusals u_X_draft u_X_reader u_X_rule u_X_day u_X_plan u_X_guess u_X_quarrel u_X_fraction u_X_firstImage u_X_secondImage u_X_kept u_X_now_settings u_X_now_stake u_X_now_people_width u_X_now_people_limit u_X_now_people_cells u_X_now_talks_width u_X_now_talks_limit u_X_now_talks_cells u_X_now_dues_width u_X_now_dues_limit u_X_now_dues_cells u_X_now_sights_width u_X_now_sights_limit u_X_now_sights_cells u_X_text_width u_X_text_limit u_X_text_cells u_X_now_rule_width u_X_now_rule_limit u_X_now_rule_cells v_X_now_people_size v_X_now_talks_size v_X_now_dues_size v_X_now_sights_size v_X_text_size v_X_now_rule_size a_X_refusals) H → va_S A s.heap H locs → decode cX10_count pc = .ok (.ireturn, 1) → W p l e rm_X10_count s m args below meth c H locs 0 0 Q (F0 m pc ls [.int r9]) := by
    intro r9 a_X_refusals he; cases he; exact hret0
  have hl : lv_has ls 2 [(0, .ref q_X), (1, .int x1)] := hl
  refine lv_iload_n hx hb dX10_count_0 rfl (lv_at hl 1 rfl) ?_
  refine lv_iconst (v := 0) hx hb dX10_count_1 (by decide) ?_
  refine lv_iconst (v := 5) hx hb dX10_count_2 (by decide) ?_
  obtain ⟨v1, hc2, hg⟩ := zbd hg
  refine zcallS (rest := []) S (c_X10_isIn l D cI cJ cZ cA ga x1 0 5 v1 hc2) (zgS zw_188 zw_189 zw_2 zw_190) rfl hd_X10_isIn ⟨rfl, rfl⟩ ⟨Nat.le_of_ble_eq_true rfl, Nat.le_of_ble_eq_true rfl⟩ rfl hl.1 rfl (Nat.le_of_ble_eq_true rfl) dX10_count_3 hP hD hS hA hK hG (isC := []) rfl rfl rfl (w2 := (ws_X10_count cI cJ cZ cA q_X q_X_now q_X_now_people q_X_now_talks q_X_now_dues q_X_now_sights q_X_text q_X_now_rule q_X_refusals u_X_draft u_X_reader u_X_rule u_X_day u_X_plan u_X_guess u_X_quarrel u_X_fraction u_X_firstImage u_X_secondImage u_X_kept u_X_now_settings u_X_now_stake u_X_now_people_width u_X_now_people_limit u_X_now_people_cells u_X_now_talks_width u_X_now_talks_limit u_X_now_talks_cells u_X_now_dues_width u_X_now_dues_limit u_X_now_dues_cells u_X_now_sights_width u_X_now_sights_limit u_X_now_sights_cells u_X_text_width u_X_text_limit u_X_text_cells u_X_now_rule_width u_X_now_rule_limit u_X_now_rule_cells v_X_now_people_size v_X_now_talks_size v_X_now_dues_size v_X_now_sights_size v_X_text_size v_X_now_rule_size a_X_refusals)) rfl (st1 := [.int v1]) rfl (fun H locs hP hD hS => ?_)
  refine lv_if_ne (tgt := 16) hx hb dX10_count_6 (by decide) (fun h6 => ?_) (fun h6 => ?_)
  · have hg := zn hg h6
    refine lv_aload_n hx hb dX10_count_16 rfl (lv_at hl 0 rfl) ?_
    refine lv_iload_n hx hb dX10_count_17 rfl (lv_at hl 1 rfl) ?_
    obtain ⟨v3, hc4, hg⟩ := zbd hg
    refine zcallV (rest := []) S (c_X10_sizeOf l D cI cJ cZ cA ga q_X q_X_now q_X_now_people q_X_now_talks q_X_now_dues q_X_now_sights q_X_text q_X_now_rule u_X_draft u_X_reader u_X_rule u_X_day u_X_plan u_X_guess u_X_quarrel u_X_fraction u_X_firstImage u_X_secondImage u_X_kept (.ref q_X_refusals) u_X_now_settings u_X_now_stake u_X_now_people_width u_X_now_people_limit u_X_now_people_cells u_X_now_talks_width u_X_now_talks_limit u_X_now_talks_cells u_X_now_dues_width u_X_now_dues_limit u_X_now_dues_cells u_X_now_sights_width u_X_now_sights_limit u_X_now_sights_cells u_X_text_width u_X_text_limit u_X_text_cells u_X_now_rule_width u_X_now_rule_limit u_X_now_rule_cells v_X_now_people_size v_X_now_talks_size v_X_now_dues_size v_X_now_sights_size v_X_text_size v_X_now_rule_size x1 v3 hc4) (zgV zw_1044 zw_1045 zw_1046 zw_2 zw_1047) rfl hd_X10_sizeOf ⟨rfl, rfl⟩ ⟨Nat.le_of_ble_eq_true rfl, Nat.le_of_ble_eq_true rfl⟩ 0 10 rfl rfl rfl hl.1 rfl (Nat.le_of_ble_eq_true rfl) dX10_count_18 hP hD hS hA hK hG (isC := [0, 1, 2, 3, 4, 5, 6, 7]) rfl rfl rfl (w2 := (ws_X10_count cI cJ cZ cA q_X q_X_now q_X_now_people q_X_now_talks q_X_now_dues q_X_now_sights q_X_text q_X_now_rule q_X_refusals u_X_draft u_X_reader u_X_rule u_X_day u_X_plan u_X_guess u_X_quarrel u_X_fraction u_X_firstImage u_X_secondImage u_X_kept u_X_now_settings u_X_now_stake u_X_now_people_width u_X_now_people_limit u_X_now_people_cells u_X_now_talks_width u_X_now_talks_limit u_X_now_talks_cells u_X_now_dues_width u_X_now_dues_limit u_X_now_dues_cells u_X_now_sights_width u_X_now_sights_limit u_X_now_sights_cells u_X_text_width u_X_text_limit u_X_text_cells u_X_now_rule_width u_X_now_rule_limit u_X_now_rule_cells v_X_now_people_size v_X_now_talks_size v_X_now_dues_size v_X_now_sights_size v_X_text_size v_X_now_rule_size a_X_refusals)) rfl (st1 := [.int v3]) rfl (fun H locs hP hD hS => ?_)
    exact hret v3 a_X_refusals hg _ _ _ _ hP hS dX10_count_21
  · have hg := zp hg h6
    refine lv_aload_n hx hb dX10_count_9 rfl (lv_at hl 0 rfl) ?_
    refine lv_bipush (v := (-2)) hx hb dX10_count_10 (by decide) ?_
    obtain ⟨v5, hc6, hg⟩ := zbd hg
    refine zcallV (rest := []) S (c_X10_refuse l D cI cJ cZ cA ga q_X q_X_refusals (.ref q_X_now) u_X_draft (.ref q_X_text) u_X_reader u_X_rule u_X_day u_X_plan u_X_guess u_X_quarrel u_X_fraction u_X_firstImage u_X_secondImage u_X_kept a_X_refusals (-2) v5 hc6) (zgV zw_184 zw_185 zw_186 zw_2 zw_187) rfl hd_X10_refuse ⟨rfl, rfl⟩ ⟨Nat.le_of_ble_eq_true rfl, Nat.le_of_ble_eq_true rfl⟩ 0 10 rfl rfl rfl hl.1 rfl (Nat.le_of_ble_eq_true rfl) dX10_count_12 hP hD hS hA hK hG (isC := [0, 8]) rfl rfl rfl (w2 := (ws_X10_count cI cJ cZ cA q_X q_X_now q_X_now_people q_X_now_talks q_X_now_dues q_X_now_sights q_X_text q_X_now_rule q_X_refusals u_X_draft u_X_reader u_X_rule u_X_day u_X_plan u_X_guess u_X_quarrel u_X_fraction u_X_firstImage u_X_secondImage u_X_kept u_X_now_settings u_X_now_stake u_X_now_people_width u_X_now_people_limit u_X_now_people_cells u_X_now_talks_width u_X_now_talks_limit u_X_now_talks_cells u_X_now_dues_width u_X_now_dues_limit u_X_now_dues_cells u_X_now_sights_width u_X_now_sights_limit u_X_now_sights_cells u_X_text_width u_X_text_limit u_X_text_cells u_X_now_rule_width u_X_now_rule_limit u_X_now_rule_cells v_X_now_people_size v_X_now_talks_size v_X_now_dues_size v_X_now_sights_size v_X_text_size v_X_now_rule_size v5.2)) rfl (st1 := [.int v5.1]) rfl (fun H locs hP hD hS => ?_)
    exact hret v5.1 v5.2 hg _ _ _ _ hP hS dX10_count_15

/-! SpokenClock$Big.mixed(J)J -/
abbrev ws_X0_mixed (cI cJ cZ cA : ClassId) (q_B q_B_limbs : Nat) (a_B_limbs : Nat → Int32) : va_W := [(q_B, .inr (0, [.ref q_B_limbs])), (q_B_limbs, .inl (cI, 8, .inl a_B_limbs))]
abbrev rm_X0_mixed : Room := { frames := 1, cells := 0, slots := 0, locals := 21 }
def g_X0_mixed_5b (a_B_limbs : Nat → Int32) (x1 : Int64) (k5 : Int64 → Int32 → Option (Int64)) (x3 : Int64) (x5 : Int32) : Option (Int64) :=
  (g_X0_size a_B_limbs).bind fun v1 =>
  if v1 ≤ x5 then (
    some (x3)
  ) else (
    if x5 < 0 ∨ 8 ≤ x5.toNatClampNeg then none else
    k5 (((31 : Int64) * x3) + ((a_B_limbs (x5.toNatClampNeg)).toInt64)) (x5 + 1)
  )
def g_X0_mixed_5 (a_B_limbs : Nat → Int32) (x1 : Int64) : Nat → Int64 → Int32 → Option (Int64)
  | 0, _, _ => none
  | n + 1, x3, x5 => g_X0_mixed_5b a_B_limbs x1 (g_X0_mixed_5 a_B_limbs x1 n) x3 x5
def g_X0_mixed (a_B_limbs : Nat → Int32) (x1 : Int64) : Option (Int64) :=
  g_X0_mixed_5 a_B_limbs x1 zF x1 0
theorem hd_X0_mixed : yX0_mixed.cls = RX0 ∧ yX0_mixed.cls ≠ "java/lang/invoke/MethodHandle" ∧ yX0_mixed.cls ≠ "java/lang/invoke/VarHandle" ∧ (parseMethodDescriptor yX0_mixed.desc).map (fun d => d.parameters.length) = some 1 := by decide +kernel
set_option maxHeartbeats 4000000 in
set_option maxRecDepth 100000 in
theorem c_X0_mixed (l : Launch) (D : va_G) (cI cJ cZ cA : ClassId) (ga : Nat → Nat) (q_B q_B_limbs : Nat) (a_B_limbs : Nat → Int32) (x1 : Int64) (o : Int64) (hg : g_X0_mixed a_B_limbs x1 = some o) : zM l yX0_mixed (Cond.code yX0_mixed cX0_mixed 6 (some .long) :: wsL_law) rm_X0_mixed D (zTy cI cJ cZ cA) ga [.ref q_B, .long x1] (ws_X0_mixed cI cJ cZ cA q_B q_B_limbs a_B_limbs) (ws_X0_mixed cI cJ cZ cA q_B q_B_limbs a_B_limbs) (some (.long o)) := by
  refine zenterL (own := RX0) (by decide) rfl rfl (Nat.le_of_ble_eq_true rfl) ?_
  intro p e s m args below meth c A ls Q S hA hK hG hl hP hD hS hret0
  have hx := S.1
  have hb := S.2.1
  have ht : ∀ w, w ∈ wsL_law → w.before args s = true := fun w h => S.2.2.2.2 w (List.mem_cons_of_mem _ h)
  have hret : ∀ (r9 : Int64), (some (r9) : Option (Int64)) = some o → ∀ (H : Heap) (locs : List Loc) (pc : Nat) (ls : Array Slot), va_P D vwCl (ws_X0_mixed cI cJ cZ cA q_B q_B_limbs a_B_limbs) H → va_S A s.heap H locs → decode cX0_mixed pc = .ok (.lreturn, 1) → W p l e rm_X0_mixed s m args below meth c H locs 0 0 Q (F0 m pc ls [.long r9]) := by
    intro r9 he; cases he; exact hret0
  have hl : lv_has ls 6 [(0, .ref q_B), (1, .long x1)] := hl
  have B5 : ∀  (n : Nat) (x3 : Int64) (x5 : Int32) (H : Heap) (locs : List Loc) (ls : Array Slot) (hl : lv_has ls 6 [(0, .ref q_B), (3, .long x3), (5, .int x5)]) (hP : va_P D vwCl (ws_X0_mixed cI cJ cZ cA q_B q_B_limbs a_B_limbs) H) (hD : va_D A (ws_X0_mixed cI cJ cZ cA q_B q_B_limbs a_B_limbs)) (hS : va_S A s.heap H locs), g_X0_mixed_5 a_B_limbs x1 n x3 x5 = some o → W p l e rm_X0_mixed s m args below meth c H locs 0 0 Q (F0 m 5 ls []) := by
    intro  n
    induction n with
    | zero => intro x3 x5 H locs ls hl hP hD hS hg; exact nomatch (show (none : Option (Int64)) = some o from hg)
    | succ n ih =>
      intro x3 x5 H locs ls hl hP hD hS hg
      have hg : g_X0_mixed_5b a_B_limbs x1 (g_X0_mixed_5 a_B_limbs x1 n) x3 x5 = some o := hg
      refine lv_iload hx hb dX0_mixed_5 (lv_at hl 2 rfl) ?_
      refine lv_aload_n hx hb dX0_mixed_7 rfl (lv_at hl 0 rfl) ?_
      obtain ⟨v1, hc2, hg⟩ := zbd hg
      refine zcallV (rest := [.int x5]) S (c_X0_size l D cI cJ cZ cA ga q_B q_B_limbs a_B_limbs v1 hc2) (zgV zw_1007 zw_988 zw_989 zw_67 zw_990) rfl hd_X0_size ⟨rfl, rfl⟩ ⟨Nat.le_of_ble_eq_true rfl, Nat.le_of_ble_eq_true rfl⟩ 0 0 rfl rfl rfl hl.1 rfl (Nat.le_of_ble_eq_true rfl) dX0_mixed_8 hP hD hS hA hK hG (isC := [0, 1]) rfl rfl rfl (w2 := (ws_X0_mixed cI cJ cZ cA q_B q_B_limbs a_B_limbs)) rfl (st1 := [.int v1, .int x5]) rfl (fun H locs hP hD hS => ?_)
      refine lv_icmp_ge (tgt := 35) hx hb dX0_mixed_11 (by decide) (fun h11 => ?_) (fun h11 => ?_)
      · have hg := zp hg h11
        refine lv_lload_n hx hb dX0_mixed_35 rfl (lv_at hl 1 rfl) ?_
        exact hret x3 hg _ _ _ _ hP hS dX0_mixed_36
      · have hg := zn hg h11
        refine lv_ldc2 (v := 31) hx hb S.2.2.2.1 (ht _ zw_1087) dX0_mixed_14 ?_
        refine lv_lload_n hx hb dX0_mixed_17 rfl (lv_at hl 1 rfl) ?_
        refine lv_lmul hx hb dX0_mixed_18 ?_
        refine lv_aload_n hx hb dX0_mixed_19 rfl (lv_at hl 0 rfl) ?_
        refine zget (C := RX0) (T := TX0) (N := 1) S hK hP 0 rfl rfl 0 (Nat.le_of_ble_eq_true rfl) zf_0 zw_75 rfl dX0_mixed_20 ?_
        refine lv_iload hx hb dX0_mixed_23 (lv_at hl 2 rfl) ?_
        obtain ⟨h3, hg⟩ := zck hg
        refine ziald hx hb hK hP 1 0 rfl rfl (j := (x5.toNatClampNeg)) h3 rfl dX0_mixed_25 ?_
        refine lv_i2l hx hb dX0_mixed_26 rfl ?_
        refine lv_ladd hx hb dX0_mixed_27 ?_
        refine lv_lstore_n (lv' := [(3, .long (((31 : Int64) * x3) + ((a_B_limbs (x5.toNatClampNeg)).toInt64))), (0, .ref q_B), (5, .int x5)]) hx hb dX0_mixed_28 rfl hl (by decide) rfl (fun ls hl => ?_)
        refine lv_iinc (k := 2) (v := x5 + 1) (lv' := [(5, .int (x5 + 1)), (3, .long (((31 : Int64) * x3) + ((a_B_limbs (x5.toNatClampNeg)).toInt64))), (0, .ref q_B)]) hx hb dX0_mixed_29 hl rfl (zinc (by decide)) (by decide) rfl (fun ls hl => ?_)
        refine lv_goto (tgt := 5) hx hb dX0_mixed_32 (by decide) ?_
        exact ih (((31 : Int64) * x3) + ((a_B_limbs (x5.toNatClampNeg)).toInt64)) (x5 + 1) _ _ _ (lv_sub hl [2, 1, 0] rfl) hP hD hS hg
  refine lv_lload_n hx hb dX0_mixed_0 rfl (lv_at hl 1 rfl) ?_
  refine lv_lstore_n (lv' := [(3, .long x1), (0, .ref q_B), (1, .long x1)]) hx hb dX0_mixed_1 rfl hl (by decide) rfl (fun ls hl => ?_)
  refine lv_iconst (v := 0) hx hb dX0_mixed_2 (by decide) ?_
  refine lv_istore (lv' := [(5, .int 0), (3, .long x1), (0, .ref q_B), (1, .long x1)]) hx hb dX0_mixed_3 hl (by decide) rfl (fun ls hl => ?_)
  exact B5 zF x1 0 _ _ _ (lv_sub hl [2, 1, 0] rfl) hP hD hS hg

/-! SpokenClock$Fraction.mixed(J)J -/
abbrev ws_X2_mixed (cI cJ cZ cA : ClassId) (q_X_fraction q_X_fraction_below q_X_fraction_above q_X_fraction_above_limbs q_X_fraction_below_limbs : Nat) (u_X_fraction_term : Value) (a_X_fraction_above_limbs : Nat → Int32) (a_X_fraction_below_limbs : Nat → Int32) : va_W := [(q_X_fraction, .inr (2, [.ref q_X_fraction_above, .ref q_X_fraction_below, u_X_fraction_term])), (q_X_fraction_above, .inr (0, [.ref q_X_fraction_above_limbs])), (q_X_fraction_above_limbs, .inl (cI, 8, .inl a_X_fraction_above_limbs)), (q_X_fraction_below, .inr (0, [.ref q_X_fraction_below_limbs])), (q_X_fraction_below_limbs, .inl (cI, 8, .inl a_X_fraction_below_limbs))]
abbrev rm_X2_mixed : Room := { frames := 2, cells := 0, slots := 0, locals := 46 }
def g_X2_mixed_5b (a_X_fraction_above_limbs : Nat → Int32) (a_X_fraction_below_limbs : Nat → Int32) (x1 : Int64) (k5 : Int64 → Int32 → Option (Int64)) (x3 : Int64) (x5 : Int32) : Option (Int64) :=
  if 2 < x5 then (
    (g_X0_mixed a_X_fraction_above_limbs x3).bind fun v1 =>
    (g_X0_mixed a_X_fraction_below_limbs v1).bind fun v3 =>
    some (v3)
  ) else (
    (g_X2_shape a_X_fraction_above_limbs a_X_fraction_below_limbs x5).bind fun v5 =>
    k5 (((31 : Int64) * x3) + v5.toInt64) (x5 + 1)
  )
def g_X2_mixed_5 (a_X_fraction_above_limbs : Nat → Int32) (a_X_fraction_below_limbs : Nat → Int32) (x1 : Int64) : Nat → Int64 → Int32 → Option (Int64)
  | 0, _, _ => none
  | n + 1, x3, x5 => g_X2_mixed_5b a_X_fraction_above_limbs a_X_fraction_below_limbs x1 (g_X2_mixed_5 a_X_fraction_above_limbs a_X_fraction_below_limbs x1 n) x3 x5
def g_X2_mixed (a_X_fraction_above_limbs : Nat → Int32) (a_X_fraction_below_limbs : Nat → Int32) (x1 : Int64) : Option (Int64) :=
  g_X2_mixed_5 a_X_fraction_above_limbs a_X_fraction_below_limbs x1 zF x1 0
theorem hd_X2_mixed : yX2_mixed.cls = RX2 ∧ yX2_mixed.cls ≠ "java/lang/invoke/MethodHandle" ∧ yX2_mixed.cls ≠ "java/lang/invoke/VarHandle" ∧ (parseMethodDescriptor yX2_mixed.desc).map (fun d => d.parameters.length) = some 1 := by decide +kernel
set_option maxHeartbeats 4000000 in
set_option maxRecDepth 100000 in
theorem c_X2_mixed (l : Launch) (D : va_G) (cI cJ cZ cA : ClassId) (ga : Nat → Nat) (q_X_fraction q_X_fraction_below q_X_fraction_above q_X_fraction_above_limbs q_X_fraction_below_limbs : Nat) (u_X_fraction_term : Value) (a_X_fraction_above_limbs : Nat → Int32) (a_X_fraction_below_limbs : Nat → Int32) (x1 : Int64) (o : Int64) (hg : g_X2_mixed a_X_fraction_above_limbs a_X_fraction_below_limbs x1 = some o) : zM l yX2_mixed (Cond.code yX2_mixed cX2_mixed 6 (some .long) :: wsL_law) rm_X2_mixed D (zTy cI cJ cZ cA) ga [.ref q_X_fraction, .long x1] (ws_X2_mixed cI cJ cZ cA q_X_fraction q_X_fraction_below q_X_fraction_above q_X_fraction_above_limbs q_X_fraction_below_limbs u_X_fraction_term a_X_fraction_above_limbs a_X_fraction_below_limbs) (ws_X2_mixed cI cJ cZ cA q_X_fraction q_X_fraction_below q_X_fraction_above q_X_fraction_above_limbs q_X_fraction_below_limbs u_X_fraction_term a_X_fraction_above_limbs a_X_fraction_below_limbs) (some (.long o)) := by
  refine zenterL (own := RX2) (by decide) rfl rfl (Nat.le_of_ble_eq_true rfl) ?_
  intro p e s m args below meth c A ls Q S hA hK hG hl hP hD hS hret0
  have hx := S.1
  have hb := S.2.1
  have ht : ∀ w, w ∈ wsL_law → w.before args s = true := fun w h => S.2.2.2.2 w (List.mem_cons_of_mem _ h)
  have hret : ∀ (r9 : Int64), (some (r9) : Option (Int64)) = some o → ∀ (H : Heap) (locs : List Loc) (pc : Nat) (ls : Array Slot), va_P D vwCl (ws_X2_mixed cI cJ cZ cA q_X_fraction q_X_fraction_below q_X_fraction_above q_X_fraction_above_limbs q_X_fraction_below_limbs u_X_fraction_term a_X_fraction_above_limbs a_X_fraction_below_limbs) H → va_S A s.heap H locs → decode cX2_mixed pc = .ok (.lreturn, 1) → W p l e rm_X2_mixed s m args below meth c H locs 0 0 Q (F0 m pc ls [.long r9]) := by
    intro r9 he; cases he; exact hret0
  have hl : lv_has ls 6 [(0, .ref q_X_fraction), (1, .long x1)] := hl
  have B5 : ∀  (n : Nat) (x3 : Int64) (x5 : Int32) (H : Heap) (locs : List Loc) (ls : Array Slot) (hl : lv_has ls 6 [(0, .ref q_X_fraction), (3, .long x3), (5, .int x5)]) (hP : va_P D vwCl (ws_X2_mixed cI cJ cZ cA q_X_fraction q_X_fraction_below q_X_fraction_above q_X_fraction_above_limbs q_X_fraction_below_limbs u_X_fraction_term a_X_fraction_above_limbs a_X_fraction_below_limbs) H) (hD : va_D A (ws_X2_mixed cI cJ cZ cA q_X_fraction q_X_fraction_below q_X_fraction_above q_X_fraction_above_limbs q_X_fraction_below_limbs u_X_fraction_term a_X_fraction_above_limbs a_X_fraction_below_limbs)) (hS : va_S A s.heap H locs), g_X2_mixed_5 a_X_fraction_above_limbs a_X_fraction_below_limbs x1 n x3 x5 = some o → W p l e rm_X2_mixed s m args below meth c H locs 0 0 Q (F0 m 5 ls []) := by
    intro  n
    induction n with
    | zero => intro x3 x5 H locs ls hl hP hD hS hg; exact nomatch (show (none : Option (Int64)) = some o from hg)
    | succ n ih =>
      intro x3 x5 H locs ls hl hP hD hS hg
      have hg : g_X2_mixed_5b a_X_fraction_above_limbs a_X_fraction_below_limbs x1 (g_X2_mixed_5 a_X_fraction_above_limbs a_X_fraction_below_limbs x1 n) x3 x5 = some o := hg
      refine lv_iload hx hb dX2_mixed_5 (lv_at hl 2 rfl) ?_
      refine lv_iconst (v := 2) hx hb dX2_mixed_7 (by decide) ?_
      refine lv_icmp_gt (tgt := 31) hx hb dX2_mixed_8 (by decide) (fun h8 => ?_) (fun h8 => ?_)
      · have hg := zp hg h8
        refine lv_aload_n hx hb dX2_mixed_31 rfl (lv_at hl 0 rfl) ?_
        refine zget (C := RX2) (T := TX2) (N := 3) S hK hP 0 rfl rfl 1 (Nat.le_of_ble_eq_true rfl) zf_2 zw_69 rfl dX2_mixed_32 ?_
        refine lv_aload_n hx hb dX2_mixed_35 rfl (lv_at hl 0 rfl) ?_
        refine zget (C := RX2) (T := TX2) (N := 3) S hK hP 0 rfl rfl 0 (Nat.le_of_ble_eq_true rfl) zf_2 zw_68 rfl dX2_mixed_36 ?_
        refine lv_lload_n hx hb dX2_mixed_39 rfl (lv_at hl 1 rfl) ?_
        obtain ⟨v1, hc2, hg⟩ := zbd hg
        refine zcallV (rest := [.ref q_X_fraction_below]) S (c_X0_mixed l D cI cJ cZ cA ga q_X_fraction_above q_X_fraction_above_limbs a_X_fraction_above_limbs x3 v1 hc2) (zgV zw_1083 zw_1084 zw_1085 zw_67 zw_1086) rfl hd_X0_mixed ⟨rfl, rfl⟩ ⟨Nat.le_of_ble_eq_true rfl, Nat.le_of_ble_eq_true rfl⟩ 1 0 rfl rfl rfl hl.1 rfl (Nat.le_of_ble_eq_true rfl) dX2_mixed_40 hP hD hS hA hK hG (isC := [1, 2]) rfl rfl rfl (w2 := (ws_X2_mixed cI cJ cZ cA q_X_fraction q_X_fraction_below q_X_fraction_above q_X_fraction_above_limbs q_X_fraction_below_limbs u_X_fraction_term a_X_fraction_above_limbs a_X_fraction_below_limbs)) rfl (st1 := [.long v1, .ref q_X_fraction_below]) rfl (fun H locs hP hD hS => ?_)
        obtain ⟨v3, hc4, hg⟩ := zbd hg
        refine zcallV (rest := []) S (c_X0_mixed l D cI cJ cZ cA ga q_X_fraction_below q_X_fraction_below_limbs a_X_fraction_below_limbs v1 v3 hc4) (zgV zw_1083 zw_1084 zw_1085 zw_67 zw_1086) rfl hd_X0_mixed ⟨rfl, rfl⟩ ⟨Nat.le_of_ble_eq_true rfl, Nat.le_of_ble_eq_true rfl⟩ 3 0 rfl rfl rfl hl.1 rfl (Nat.le_of_ble_eq_true rfl) dX2_mixed_43 hP hD hS hA hK hG (isC := [3, 4]) rfl rfl rfl (w2 := (ws_X2_mixed cI cJ cZ cA q_X_fraction q_X_fraction_below q_X_fraction_above q_X_fraction_above_limbs q_X_fraction_below_limbs u_X_fraction_term a_X_fraction_above_limbs a_X_fraction_below_limbs)) rfl (st1 := [.long v3]) rfl (fun H locs hP hD hS => ?_)
        exact hret v3 hg _ _ _ _ hP hS dX2_mixed_46
      · have hg := zn hg h8
        refine lv_ldc2 (v := 31) hx hb S.2.2.2.1 (ht _ zw_1081) dX2_mixed_11 ?_
        refine lv_lload_n hx hb dX2_mixed_14 rfl (lv_at hl 1 rfl) ?_
        refine lv_lmul hx hb dX2_mixed_15 ?_
        refine lv_aload_n hx hb dX2_mixed_16 rfl (lv_at hl 0 rfl) ?_
        refine lv_iload hx hb dX2_mixed_17 (lv_at hl 2 rfl) ?_
        obtain ⟨v5, hc6, hg⟩ := zbd hg
        refine zcallV (rest := [.long ((31 : Int64) * x3)]) S (c_X2_shape l D cI cJ cZ cA ga q_X_fraction q_X_fraction_above q_X_fraction_above_limbs q_X_fraction_below q_X_fraction_below_limbs u_X_fraction_term a_X_fraction_above_limbs a_X_fraction_below_limbs x5 v5 hc6) (zgV zw_1082 zw_984 zw_985 zw_19 zw_986) rfl hd_X2_shape ⟨rfl, rfl⟩ ⟨Nat.le_of_ble_eq_true rfl, Nat.le_of_ble_eq_true rfl⟩ 0 2 rfl rfl rfl hl.1 rfl (Nat.le_of_ble_eq_true rfl) dX2_mixed_19 hP hD hS hA hK hG (isC := [0, 1, 2, 3, 4]) rfl rfl rfl (w2 := (ws_X2_mixed cI cJ cZ cA q_X_fraction q_X_fraction_below q_X_fraction_above q_X_fraction_above_limbs q_X_fraction_below_limbs u_X_fraction_term a_X_fraction_above_limbs a_X_fraction_below_limbs)) rfl (st1 := [.int v5, .long ((31 : Int64) * x3)]) rfl (fun H locs hP hD hS => ?_)
        refine lv_i2l hx hb dX2_mixed_22 rfl ?_
        refine lv_ladd hx hb dX2_mixed_23 ?_
        refine lv_lstore_n (lv' := [(3, .long (((31 : Int64) * x3) + v5.toInt64)), (0, .ref q_X_fraction), (5, .int x5)]) hx hb dX2_mixed_24 rfl hl (by decide) rfl (fun ls hl => ?_)
        refine lv_iinc (k := 2) (v := x5 + 1) (lv' := [(5, .int (x5 + 1)), (3, .long (((31 : Int64) * x3) + v5.toInt64)), (0, .ref q_X_fraction)]) hx hb dX2_mixed_25 hl rfl (zinc (by decide)) (by decide) rfl (fun ls hl => ?_)
        refine lv_goto (tgt := 5) hx hb dX2_mixed_28 (by decide) ?_
        exact ih (((31 : Int64) * x3) + v5.toInt64) (x5 + 1) _ _ _ (lv_sub hl [2, 1, 0] rfl) hP hD hS hg
  refine lv_lload_n hx hb dX2_mixed_0 rfl (lv_at hl 1 rfl) ?_
  refine lv_lstore_n (lv' := [(3, .long x1), (0, .ref q_X_fraction), (1, .long x1)]) hx hb dX2_mixed_1 rfl hl (by decide) rfl (fun ls hl => ?_)
  refine lv_iconst (v := 0) hx hb dX2_mixed_2 (by decide) ?_
  refine lv_istore (lv' := [(5, .int 0), (3, .long x1), (0, .ref q_X_fraction), (1, .long x1)]) hx hb dX2_mixed_3 hl (by decide) rfl (fun ls hl => ?_)
  exact B5 zF x1 0 _ _ _ (lv_sub hl [2, 1, 0] rfl) hP hD hS hg

/-! SpokenClock$Rows.mixed(J)J -/
abbrev ws_X7_mixed (cI cJ cZ cA : ClassId) (q_R q_R_cells : Nat) (u_R_limit : Value) (N_R_cells : Nat) (v_R_width : Int32) (v_R_size : Int32) (a_R_cells : Nat → Int32) : va_W := [(q_R, .inr (7, [.int v_R_width, u_R_limit, .ref q_R_cells, .int v_R_size])), (q_R_cells, .inl (cI, N_R_cells, .inl a_R_cells))]
abbrev rm_X7_mixed : Room := { frames := 0, cells := 0, slots := 0, locals := 0 }
def g_X7_mixed_5b (N_R_cells : Nat) (v_R_width : Int32) (v_R_size : Int32) (a_R_cells : Nat → Int32) (x1 : Int64) (k5 : Int64 → Int32 → Option (Int64)) (x3 : Int64) (x5 : Int32) : Option (Int64) :=
  if (v_R_size * v_R_width) ≤ x5 then (
    some (x3)
  ) else (
    if x5 < 0 ∨ N_R_cells ≤ x5.toNatClampNeg then none else
    k5 (((31 : Int64) * x3) + ((a_R_cells (x5.toNatClampNeg)).toInt64)) (x5 + 1)
  )
def g_X7_mixed_5 (N_R_cells : Nat) (v_R_width : Int32) (v_R_size : Int32) (a_R_cells : Nat → Int32) (x1 : Int64) : Nat → Int64 → Int32 → Option (Int64)
  | 0, _, _ => none
  | n + 1, x3, x5 => g_X7_mixed_5b N_R_cells v_R_width v_R_size a_R_cells x1 (g_X7_mixed_5 N_R_cells v_R_width v_R_size a_R_cells x1 n) x3 x5
def g_X7_mixed (N_R_cells : Nat) (v_R_width : Int32) (v_R_size : Int32) (a_R_cells : Nat → Int32) (x1 : Int64) : Option (Int64) :=
  g_X7_mixed_5 N_R_cells v_R_width v_R_size a_R_cells x1 zF x1 0
theorem hd_X7_mixed : yX7_mixed.cls = RX7 ∧ yX7_mixed.cls ≠ "java/lang/invoke/MethodHandle" ∧ yX7_mixed.cls ≠ "java/lang/invoke/VarHandle" ∧ (parseMethodDescriptor yX7_mixed.desc).map (fun d => d.parameters.length) = some 1 := by decide +kernel
set_option maxHeartbeats 4000000 in
set_option maxRecDepth 100000 in
theorem c_X7_mixed (l : Launch) (D : va_G) (cI cJ cZ cA : ClassId) (ga : Nat → Nat) (q_R q_R_cells : Nat) (u_R_limit : Value) (N_R_cells : Nat) (v_R_width : Int32) (v_R_size : Int32) (a_R_cells : Nat → Int32) (x1 : Int64) (o : Int64) (hg : g_X7_mixed N_R_cells v_R_width v_R_size a_R_cells x1 = some o) : zM l yX7_mixed (Cond.code yX7_mixed cX7_mixed 6 (some .long) :: wsL_law) rm_X7_mixed D (zTy cI cJ cZ cA) ga [.ref q_R, .long x1] (ws_X7_mixed cI cJ cZ cA q_R q_R_cells u_R_limit N_R_cells v_R_width v_R_size a_R_cells) (ws_X7_mixed cI cJ cZ cA q_R q_R_cells u_R_limit N_R_cells v_R_width v_R_size a_R_cells) (some (.long o)) := by
  refine zenterL (own := RX7) (by decide) rfl rfl (Nat.le_of_ble_eq_true rfl) ?_
  intro p e s m args below meth c A ls Q S hA hK hG hl hP hD hS hret0
  have hx := S.1
  have hb := S.2.1
  have ht : ∀ w, w ∈ wsL_law → w.before args s = true := fun w h => S.2.2.2.2 w (List.mem_cons_of_mem _ h)
  have hret : ∀ (r9 : Int64), (some (r9) : Option (Int64)) = some o → ∀ (H : Heap) (locs : List Loc) (pc : Nat) (ls : Array Slot), va_P D vwCl (ws_X7_mixed cI cJ cZ cA q_R q_R_cells u_R_limit N_R_cells v_R_width v_R_size a_R_cells) H → va_S A s.heap H locs → decode cX7_mixed pc = .ok (.lreturn, 1) → W p l e rm_X7_mixed s m args below meth c H locs 0 0 Q (F0 m pc ls [.long r9]) := by
    intro r9 he; cases he; exact hret0
  have hl : lv_has ls 6 [(0, .ref q_R), (1, .long x1)] := hl
  have B5 : ∀  (n : Nat) (x3 : Int64) (x5 : Int32) (H : Heap) (locs : List Loc) (ls : Array Slot) (hl : lv_has ls 6 [(0, .ref q_R), (3, .long x3), (5, .int x5)]) (hP : va_P D vwCl (ws_X7_mixed cI cJ cZ cA q_R q_R_cells u_R_limit N_R_cells v_R_width v_R_size a_R_cells) H) (hD : va_D A (ws_X7_mixed cI cJ cZ cA q_R q_R_cells u_R_limit N_R_cells v_R_width v_R_size a_R_cells)) (hS : va_S A s.heap H locs), g_X7_mixed_5 N_R_cells v_R_width v_R_size a_R_cells x1 n x3 x5 = some o → W p l e rm_X7_mixed s m args below meth c H locs 0 0 Q (F0 m 5 ls []) := by
    intro  n
    induction n with
    | zero => intro x3 x5 H locs ls hl hP hD hS hg; exact nomatch (show (none : Option (Int64)) = some o from hg)
    | succ n ih =>
      intro x3 x5 H locs ls hl hP hD hS hg
      have hg : g_X7_mixed_5b N_R_cells v_R_width v_R_size a_R_cells x1 (g_X7_mixed_5 N_R_cells v_R_width v_R_size a_R_cells x1 n) x3 x5 = some o := hg
      refine lv_iload hx hb dX7_mixed_5 (lv_at hl 2 rfl) ?_
      refine lv_aload_n hx hb dX7_mixed_7 rfl (lv_at hl 0 rfl) ?_
      refine zget (C := RX7) (T := TX7) (N := 4) S hK hP 0 rfl rfl 3 (Nat.le_of_ble_eq_true rfl) zf_7 zw_183 rfl dX7_mixed_8 ?_
      refine lv_aload_n hx hb dX7_mixed_11 rfl (lv_at hl 0 rfl) ?_
      refine zget (C := RX7) (T := TX7) (N := 4) S hK hP 0 rfl rfl 0 (Nat.le_of_ble_eq_true rfl) zf_7 zw_98 rfl dX7_mixed_12 ?_
      refine lv_imul hx hb dX7_mixed_15 ?_
      refine lv_icmp_ge (tgt := 40) hx hb dX7_mixed_16 (by decide) (fun h16 => ?_) (fun h16 => ?_)
      · have hg := zp hg h16
        refine lv_lload_n hx hb dX7_mixed_40 rfl (lv_at hl 1 rfl) ?_
        exact hret x3 hg _ _ _ _ hP hS dX7_mixed_41
      · have hg := zn hg h16
        refine lv_ldc2 (v := 31) hx hb S.2.2.2.1 (ht _ zw_1076) dX7_mixed_19 ?_
        refine lv_lload_n hx hb dX7_mixed_22 rfl (lv_at hl 1 rfl) ?_
        refine lv_lmul hx hb dX7_mixed_23 ?_
        refine lv_aload_n hx hb dX7_mixed_24 rfl (lv_at hl 0 rfl) ?_
        refine zget (C := RX7) (T := TX7) (N := 4) S hK hP 0 rfl rfl 2 (Nat.le_of_ble_eq_true rfl) zf_7 zw_100 rfl dX7_mixed_25 ?_
        refine lv_iload hx hb dX7_mixed_28 (lv_at hl 2 rfl) ?_
        obtain ⟨h1, hg⟩ := zck hg
        refine ziald hx hb hK hP 1 0 rfl rfl (j := (x5.toNatClampNeg)) h1 rfl dX7_mixed_30 ?_
        refine lv_i2l hx hb dX7_mixed_31 rfl ?_
        refine lv_ladd hx hb dX7_mixed_32 ?_
        refine lv_lstore_n (lv' := [(3, .long (((31 : Int64) * x3) + ((a_R_cells (x5.toNatClampNeg)).toInt64))), (0, .ref q_R), (5, .int x5)]) hx hb dX7_mixed_33 rfl hl (by decide) rfl (fun ls hl => ?_)
        refine lv_iinc (k := 2) (v := x5 + 1) (lv' := [(5, .int (x5 + 1)), (3, .long (((31 : Int64) * x3) + ((a_R_cells (x5.toNatClampNeg)).toInt64))), (0, .ref q_R)]) hx hb dX7_mixed_34 hl rfl (zinc (by decide)) (by decide) rfl (fun ls hl => ?_)
        refine lv_goto (tgt := 5) hx hb dX7_mixed_37 (by decide) ?_
        exact ih (((31 : Int64) * x3) + ((a_R_cells (x5.toNatClampNeg)).toInt64)) (x5 + 1) _ _ _ (lv_sub hl [2, 1, 0] rfl) hP hD hS hg
  refine lv_lload_n hx hb dX7_mixed_0 rfl (lv_at hl 1 rfl) ?_
  refine lv_lstore_n (lv' := [(3, .long x1), (0, .ref q_R), (1, .long x1)]) hx hb dX7_mixed_1 rfl hl (by decide) rfl (fun ls hl => ?_)
  refine lv_iconst (v := 0) hx hb dX7_mixed_2 (by decide) ?_
  refine lv_istore (lv' := [(5, .int 0), (3, .long x1), (0, .ref q_R), (1, .long x1)]) hx hb dX7_mixed_3 hl (by decide) rfl (fun ls hl => ?_)
  exact B5 zF x1 0 _ _ _ (lv_sub hl [2, 1, 0] rfl) hP hD hS hg

/-! SpokenClock$State.mixedWith(J[I)J -/
abbrev ws_X9_mixedWith (cI cJ cZ cA : ClassId) (q_p2 : Nat) (N_p2 : Nat) (a_p2 : Nat → Int32) : va_W := [(q_p2, .inl (cI, N_p2, .inl a_p2))]
abbrev rm_X9_mixedWith : Room := { frames := 0, cells := 0, slots := 0, locals := 0 }
def g_X9_mixedWith_13b (N_p2 : Nat) (a_p2 : Nat → Int32) (x0 : Int64) (k13 : Int64 → Int32 → Int32 → Option (Int64)) (x3 : Int64) (x6 : Int32) (x7 : Int32) : Option (Int64) :=
  if x6 ≤ x7 then (
    some (x3)
  ) else (
    if x7 < 0 ∨ N_p2 ≤ x7.toNatClampNeg then none else
    k13 (((31 : Int64) * x3) + ((a_p2 (x7.toNatClampNeg)).toInt64)) x6 (x7 + 1)
  )
def g_X9_mixedWith_13 (N_p2 : Nat) (a_p2 : Nat → Int32) (x0 : Int64) : Nat → Int64 → Int32 → Int32 → Option (Int64)
  | 0, _, _, _ => none
  | n + 1, x3, x6, x7 => g_X9_mixedWith_13b N_p2 a_p2 x0 (g_X9_mixedWith_13 N_p2 a_p2 x0 n) x3 x6 x7
def g_X9_mixedWith (N_p2 : Nat) (a_p2 : Nat → Int32) (x0 : Int64) : Option (Int64) :=
  g_X9_mixedWith_13 N_p2 a_p2 x0 zF x0 (Int32.ofNat N_p2) 0
theorem hd_X9_mixedWith : yX9_mixedWith.cls ≠ "java/lang/invoke/MethodHandle" ∧ yX9_mixedWith.cls ≠ "java/lang/invoke/VarHandle" ∧ (parseMethodDescriptor yX9_mixedWith.desc).map (fun d => d.parameters.length) = some 2 := by decide +kernel
set_option maxHeartbeats 4000000 in
set_option maxRecDepth 100000 in
theorem c_X9_mixedWith (l : Launch) (D : va_G) (cI cJ cZ cA : ClassId) (ga : Nat → Nat) (q_p2 : Nat) (N_p2 : Nat) (a_p2 : Nat → Int32) (x0 : Int64) (o : Int64) (hg : g_X9_mixedWith N_p2 a_p2 x0 = some o) : zM l yX9_mixedWith (Cond.code yX9_mixedWith cX9_mixedWith 9 (some .long) :: wsL_law) rm_X9_mixedWith D (zTy cI cJ cZ cA) ga [.long x0, .ref q_p2] (ws_X9_mixedWith cI cJ cZ cA q_p2 N_p2 a_p2) (ws_X9_mixedWith cI cJ cZ cA q_p2 N_p2 a_p2) (some (.long o)) := by
  refine zenterL (own := RX9) (by decide) rfl rfl (Nat.le_of_ble_eq_true rfl) ?_
  intro p e s m args below meth c A ls Q S hA hK hG hl hP hD hS hret0
  have hx := S.1
  have hb := S.2.1
  have ht : ∀ w, w ∈ wsL_law → w.before args s = true := fun w h => S.2.2.2.2 w (List.mem_cons_of_mem _ h)
  have hret : ∀ (r9 : Int64), (some (r9) : Option (Int64)) = some o → ∀ (H : Heap) (locs : List Loc) (pc : Nat) (ls : Array Slot), va_P D vwCl (ws_X9_mixedWith cI cJ cZ cA q_p2 N_p2 a_p2) H → va_S A s.heap H locs → decode cX9_mixedWith pc = .ok (.lreturn, 1) → W p l e rm_X9_mixedWith s m args below meth c H locs 0 0 Q (F0 m pc ls [.long r9]) := by
    intro r9 he; cases he; exact hret0
  have hl : lv_has ls 9 [(0, .long x0), (2, .ref q_p2)] := hl
  have B13 : ∀  (n : Nat) (x3 : Int64) (x6 : Int32) (x7 : Int32) (H : Heap) (locs : List Loc) (ls : Array Slot) (hl : lv_has ls 9 [(3, .long x3), (5, .ref q_p2), (6, .int x6), (7, .int x7)]) (hP : va_P D vwCl (ws_X9_mixedWith cI cJ cZ cA q_p2 N_p2 a_p2) H) (hD : va_D A (ws_X9_mixedWith cI cJ cZ cA q_p2 N_p2 a_p2)) (hS : va_S A s.heap H locs), g_X9_mixedWith_13 N_p2 a_p2 x0 n x3 x6 x7 = some o → W p l e rm_X9_mixedWith s m args below meth c H locs 0 0 Q (F0 m 13 ls []) := by
    intro  n
    induction n with
    | zero => intro x3 x6 x7 H locs ls hl hP hD hS hg; exact nomatch (show (none : Option (Int64)) = some o from hg)
    | succ n ih =>
      intro x3 x6 x7 H locs ls hl hP hD hS hg
      have hg : g_X9_mixedWith_13b N_p2 a_p2 x0 (g_X9_mixedWith_13 N_p2 a_p2 x0 n) x3 x6 x7 = some o := hg
      refine lv_iload hx hb dX9_mixedWith_13 (lv_at hl 3 rfl) ?_
      refine lv_iload hx hb dX9_mixedWith_15 (lv_at hl 2 rfl) ?_
      refine lv_icmp_ge (tgt := 43) hx hb dX9_mixedWith_17 (by decide) (fun h17 => ?_) (fun h17 => ?_)
      · have hg := zp hg h17
        refine lv_lload_n hx hb dX9_mixedWith_43 rfl (lv_at hl 0 rfl) ?_
        exact hret x3 hg _ _ _ _ hP hS dX9_mixedWith_44
      · have hg := zn hg h17
        refine lv_aload hx hb dX9_mixedWith_20 (lv_at hl 1 rfl) ?_
        refine lv_iload hx hb dX9_mixedWith_22 (lv_at hl 3 rfl) ?_
        obtain ⟨h1, hg⟩ := zck hg
        refine ziald hx hb hK hP 0 0 rfl rfl (j := (x7.toNatClampNeg)) h1 rfl dX9_mixedWith_24 ?_
        refine lv_istore (lv' := [(8, .int (a_p2 (x7.toNatClampNeg))), (3, .long x3), (5, .ref q_p2), (6, .int x6), (7, .int x7)]) hx hb dX9_mixedWith_25 hl (by decide) rfl (fun ls hl => ?_)
        refine lv_ldc2 (v := 31) hx hb S.2.2.2.1 (ht _ zw_1071) dX9_mixedWith_27 ?_
        refine lv_lload_n hx hb dX9_mixedWith_30 rfl (lv_at hl 1 rfl) ?_
        refine lv_lmul hx hb dX9_mixedWith_31 ?_
        refine lv_iload hx hb dX9_mixedWith_32 (lv_at hl 0 rfl) ?_
        refine lv_i2l hx hb dX9_mixedWith_34 rfl ?_
        refine lv_ladd hx hb dX9_mixedWith_35 ?_
        refine lv_lstore_n (lv' := [(3, .long (((31 : Int64) * x3) + ((a_p2 (x7.toNatClampNeg)).toInt64))), (8, .int (a_p2 (x7.toNatClampNeg))), (5, .ref q_p2), (6, .int x6), (7, .int x7)]) hx hb dX9_mixedWith_36 rfl hl (by decide) rfl (fun ls hl => ?_)
        refine lv_iinc (k := 4) (v := x7 + 1) (lv' := [(7, .int (x7 + 1)), (3, .long (((31 : Int64) * x3) + ((a_p2 (x7.toNatClampNeg)).toInt64))), (8, .int (a_p2 (x7.toNatClampNeg))), (5, .ref q_p2), (6, .int x6)]) hx hb dX9_mixedWith_37 hl rfl (zinc (by decide)) (by decide) rfl (fun ls hl => ?_)
        refine lv_goto (tgt := 13) hx hb dX9_mixedWith_40 (by decide) ?_
        exact ih (((31 : Int64) * x3) + ((a_p2 (x7.toNatClampNeg)).toInt64)) x6 (x7 + 1) _ _ _ (lv_sub hl [1, 3, 4, 0] rfl) hP hD hS hg
  refine lv_lload_n hx hb dX9_mixedWith_0 rfl (lv_at hl 0 rfl) ?_
  refine lv_lstore_n (lv' := [(3, .long x0), (0, .long x0), (2, .ref q_p2)]) hx hb dX9_mixedWith_1 rfl hl (by decide) rfl (fun ls hl => ?_)
  refine lv_aload_n hx hb dX9_mixedWith_2 rfl (lv_at hl 2 rfl) ?_
  refine lv_astore (lv' := [(5, .ref q_p2), (3, .long x0), (0, .long x0), (2, .ref q_p2)]) hx hb dX9_mixedWith_3 hl (by decide) rfl (fun ls hl => ?_)
  refine lv_aload hx hb dX9_mixedWith_5 (lv_at hl 0 rfl) ?_
  refine va_alen (v := Int32.ofNat N_p2) hx hb hK hP 0 0 rfl rfl rfl dX9_mixedWith_7 ?_
  refine lv_istore (lv' := [(6, .int (Int32.ofNat N_p2)), (5, .ref q_p2), (3, .long x0), (0, .long x0), (2, .ref q_p2)]) hx hb dX9_mixedWith_8 hl (by decide) rfl (fun ls hl => ?_)
  refine lv_iconst (v := 0) hx hb dX9_mixedWith_10 (by decide) ?_
  refine lv_istore (lv' := [(7, .int 0), (6, .int (Int32.ofNat N_p2)), (5, .ref q_p2), (3, .long x0), (0, .long x0), (2, .ref q_p2)]) hx hb dX9_mixedWith_11 hl (by decide) rfl (fun ls hl => ?_)
  exact B13 zF x0 (Int32.ofNat N_p2) 0 _ _ _ (lv_sub hl [3, 2, 1, 0] rfl) hP hD hS hg

/-! SpokenClock$State.mixed(J)J -/
abbrev ws_X9_mixed (cI cJ cZ cA : ClassId) (q_S q_S_settings q_S_sights q_S_dues q_S_talks q_S_people q_S_people_cells q_S_talks_cells q_S_dues_cells q_S_sights_cells q_S_rule q_S_stake q_S_rule_cells : Nat) (u_S_people_limit : Value) (u_S_talks_limit : Value) (u_S_dues_limit : Value) (u_S_sights_limit : Value) (u_S_rule_limit : Value) (N_S_people_cells : Nat) (N_S_talks_cells : Nat) (N_S_dues_cells : Nat) (N_S_sights_cells : Nat) (N_S_rule_cells : Nat) (a_S_settings : Nat → Int32) (v_S_people_width : Int32) (v_S_people_size : Int32) (a_S_people_cells : Nat → Int32) (v_S_talks_width : Int32) (v_S_talks_size : Int32) (a_S_talks_cells : Nat → Int32) (v_S_dues_width : Int32) (v_S_dues_size : Int32) (a_S_dues_cells : Nat → Int32) (v_S_sights_width : Int32) (v_S_sights_size : Int32) (a_S_sights_cells : Nat → Int32) (a_S_stake : Nat → Int32) (v_S_rule_width : Int32) (v_S_rule_size : Int32) (a_S_rule_cells : Nat → Int32) : va_W := [(q_S, .inr (9, [.ref q_S_people, .ref q_S_talks, .ref q_S_dues, .ref q_S_sights, .ref q_S_rule, .ref q_S_settings, .ref q_S_stake])), (q_S_settings, .inl (cI, 3, .inl a_S_settings)), (q_S_people, .inr (7, [.int v_S_people_width, u_S_people_limit, .ref q_S_people_cells, .int v_S_people_size])), (q_S_people_cells, .inl (cI, N_S_people_cells, .inl a_S_people_cells)), (q_S_talks, .inr (7, [.int v_S_talks_width, u_S_talks_limit, .ref q_S_talks_cells, .int v_S_talks_size])), (q_S_talks_cells, .inl (cI, N_S_talks_cells, .inl a_S_talks_cells)), (q_S_dues, .inr (7, [.int v_S_dues_width, u_S_dues_limit, .ref q_S_dues_cells, .int v_S_dues_size])), (q_S_dues_cells, .inl (cI, N_S_dues_cells, .inl a_S_dues_cells)), (q_S_sights, .inr (7, [.int v_S_sights_width, u_S_sights_limit, .ref q_S_sights_cells, .int v_S_sights_size])), (q_S_sights_cells, .inl (cI, N_S_sights_cells, .inl a_S_sights_cells)), (q_S_stake, .inl (cI, 5, .inl a_S_stake)), (q_S_rule, .inr (7, [.int v_S_rule_width, u_S_rule_limit, .ref q_S_rule_cells, .int v_S_rule_size])), (q_S_rule_cells, .inl (cI, N_S_rule_cells, .inl a_S_rule_cells))]
abbrev rm_X9_mixed : Room := { frames := 1, cells := 0, slots := 0, locals := 28 }
def g_X9_mixed (N_S_people_cells : Nat) (N_S_talks_cells : Nat) (N_S_dues_cells : Nat) (N_S_sights_cells : Nat) (N_S_rule_cells : Nat) (a_S_settings : Nat → Int32) (v_S_people_width : Int32) (v_S_people_size : Int32) (a_S_people_cells : Nat → Int32) (v_S_talks_width : Int32) (v_S_talks_size : Int32) (a_S_talks_cells : Nat → Int32) (v_S_dues_width : Int32) (v_S_dues_size : Int32) (a_S_dues_cells : Nat → Int32) (v_S_sights_width : Int32) (v_S_sights_size : Int32) (a_S_sights_cells : Nat → Int32) (a_S_stake : Nat → Int32) (v_S_rule_width : Int32) (v_S_rule_size : Int32) (a_S_rule_cells : Nat → Int32) (x1 : Int64) : Option (Int64) :=
  (g_X9_mixedWith 3 a_S_settings x1).bind fun v1 =>
  (g_X7_mixed N_S_people_cells v_S_people_width v_S_people_size a_S_people_cells v1).bind fun v3 =>
  (g_X7_mixed N_S_talks_cells v_S_talks_width v_S_talks_size a_S_talks_cells v3).bind fun v5 =>
  (g_X7_mixed N_S_dues_cells v_S_dues_width v_S_dues_size a_S_dues_cells v5).bind fun v7 =>
  (g_X7_mixed N_S_sights_cells v_S_sights_width v_S_sights_size a_S_sights_cells v7).bind fun v9 =>
  (g_X9_mixedWith 5 a_S_stake v9).bind fun v11 =>
  (g_X7_mixed N_S_rule_cells v_S_rule_width v_S_rule_size a_S_rule_cells v11).bind fun v13 =>
  some (v13)
theorem hd_X9_mixed : yX9_mixed.cls = RX9 ∧ yX9_mixed.cls ≠ "java/lang/invoke/MethodHandle" ∧ yX9_mixed.cls ≠ "java/lang/invoke/VarHandle" ∧ (parseMethodDescriptor yX9_mixed.desc).map (fun d => d.parameters.length) = some 1 := by decide +kernel
set_option maxHeartbeats 4000000 in
set_option maxRecDepth 100000 in
theorem c_X9_mixed (l : Launch) (D : va_G) (cI cJ cZ cA : ClassId) (ga : Nat → Nat) (q_S q_S_settings q_S_sights q_S_dues q_S_talks q_S_people q_S_people_cells q_S_talks_cells q_S_dues_cells q_S_sights_cells q_S_rule q_S_stake q_S_rule_cells : Nat) (u_S_people_limit : Value) (u_S_talks_limit : Value) (u_S_dues_limit : Value) (u_S_sights_limit : Value) (u_S_rule_limit : Value) (N_S_people_cells : Nat) (N_S_talks_cells : Nat) (N_S_dues_cells : Nat) (N_S_sights_cells : Nat) (N_S_rule_cells : Nat) (a_S_settings : Nat → Int32) (v_S_people_width : Int32) (v_S_people_size : Int32) (a_S_people_cells : Nat → Int32) (v_S_talks_width : Int32) (v_S_talks_size : Int32) (a_S_talks_cells : Nat → Int32) (v_S_dues_width : Int32) (v_S_dues_size : Int32) (a_S_dues_cells : Nat → Int32) (v_S_sights_width : Int32) (v_S_sights_size : Int32) (a_S_sights_cells : Nat → Int32) (a_S_stake : Nat → Int32) (v_S_rule_width : Int32) (v_S_rule_size : Int32) (a_S_rule_cells : Nat → Int32) (x1 : Int64) (o : Int64) (hg : g_X9_mixed N_S_people_cells N_S_talks_cells N_S_dues_cells N_S_sights_cells N_S_rule_cells a_S_settings v_S_people_width v_S_people_size a_S_people_cells v_S_talks_width v_S_talks_size a_S_talks_cells v_S_dues_width v_S_dues_size a_S_dues_cells v_S_sights_width v_S_sights_size a_S_sights_cells a_S_stake v_S_rule_width v_S_rule_size a_S_rule_cells x1 = some o) : zM l yX9_mixed (Cond.code yX9_mixed cX9_mixed 5 (some .long) :: wsL_law) rm_X9_mixed D (zTy cI cJ cZ cA) ga [.ref q_S, .long x1] (ws_X9_mixed cI cJ cZ cA q_S q_S_settings q_S_sights q_S_dues q_S_talks q_S_people q_S_people_cells q_S_talks_cells q_S_dues_cells q_S_sights_cells q_S_rule q_S_stake q_S_rule_cells u_S_people_limit u_S_talks_limit u_S_dues_limit u_S_sights_limit u_S_rule_limit N_S_people_cells N_S_talks_cells N_S_dues_cells N_S_sights_cells N_S_rule_cells a_S_settings v_S_people_width v_S_people_size a_S_people_cells v_S_talks_width v_S_talks_size a_S_talks_cells v_S_dues_width v_S_dues_size a_S_dues_cells v_S_sights_width v_S_sights_size a_S_sights_cells a_S_stake v_S_rule_width v_S_rule_size a_S_rule_cells) (ws_X9_mixed cI cJ cZ cA q_S q_S_settings q_S_sights q_S_dues q_S_talks q_S_people q_S_people_cells q_S_talks_cells q_S_dues_cells q_S_sights_cells q_S_rule q_S_stake q_S_rule_cells u_S_people_limit u_S_talks_limit u_S_dues_limit u_S_sights_limit u_S_rule_limit N_S_people_cells N_S_talks_cells N_S_dues_cells N_S_sights_cells N_S_rule_cells a_S_settings v_S_people_width v_S_people_size a_S_people_cells v_S_talks_width v_S_talks_size a_S_talks_cells v_S_dues_width v_S_dues_size a_S_dues_cells v_S_sights_width v_S_sights_size a_S_sights_cells a_S_stake v_S_rule_width v_S_rule_size a_S_rule_cells) (some (.long o)) := by
  refine zenterL (own := RX9) (by decide) rfl rfl (Nat.le_of_ble_eq_true rfl) ?_
  intro p e s m args below meth c A ls Q S hA hK hG hl hP hD hS hret0
  have hx := S.1
  have hb := S.2.1
  have ht : ∀ w, w ∈ wsL_law → w.before args s = true := fun w h => S.2.2.2.2 w (List.mem_cons_of_mem _ h)
  have hret : ∀ (r9 : Int64), (some (r9) : Option (Int64)) = some o → ∀ (H : Heap) (locs : List Loc) (pc : Nat) (ls : Array Slot), va_P D vwCl (ws_X9_mixed cI cJ cZ cA q_S q_S_settings q_S_sights q_S_dues q_S_talks q_S_people q_S_people_cells q_S_talks_cells q_S_dues_cells q_S_sights_cells q_S_rule q_S_stake q_S_rule_cells u_S_people_limit u_S_talks_limit u_S_dues_limit u_S_sights_limit u_S_rule_limit N_S_people_cells N_S_talks_cells N_S_dues_cells N_S_sights_cells N_S_rule_cells a_S_settings v_S_people_width v_S_people_size a_S_people_cells v_S_talks_width v_S_talks_size a_S_talks_cells v_S_dues_width v_S_dues_size a_S_dues_cells v_S_sights_width v_S_sights_size a_S_sights_cells a_S_stake v_S_rule_width v_S_rule_size a_S_rule_cells) H → va_S A s.heap H locs → decode cX9_mixed pc = .ok (.lreturn, 1) → W p l e rm_X9_mixed s m args below meth c H locs 0 0 Q (F0 m pc ls [.long r9]) := by
    intro r9 he; cases he; exact hret0
  have hl : lv_has ls 5 [(0, .ref q_S), (1, .long x1)] := hl
  refine lv_lload_n hx hb dX9_mixed_0 rfl (lv_at hl 1 rfl) ?_
  refine lv_aload_n hx hb dX9_mixed_1 rfl (lv_at hl 0 rfl) ?_
  refine zget (C := RX9) (T := TX9) (N := 7) S hK hP 0 rfl rfl 5 (Nat.le_of_ble_eq_true rfl) zf_9 zw_85 rfl dX9_mixed_2 ?_
  obtain ⟨v1, hc2, hg⟩ := zbd hg
  refine zcallS (rest := []) S (c_X9_mixedWith l D cI cJ cZ cA ga q_S_settings 3 a_S_settings x1 v1 hc2) (zgS zw_1068 zw_1069 zw_23 zw_1070) rfl hd_X9_mixedWith ⟨rfl, rfl⟩ ⟨Nat.le_of_ble_eq_true rfl, Nat.le_of_ble_eq_true rfl⟩ rfl hl.1 rfl (Nat.le_of_ble_eq_true rfl) dX9_mixed_5 hP hD hS hA hK hG (isC := [1]) rfl rfl rfl (w2 := (ws_X9_mixed cI cJ cZ cA q_S q_S_settings q_S_sights q_S_dues q_S_talks q_S_people q_S_people_cells q_S_talks_cells q_S_dues_cells q_S_sights_cells q_S_rule q_S_stake q_S_rule_cells u_S_people_limit u_S_talks_limit u_S_dues_limit u_S_sights_limit u_S_rule_limit N_S_people_cells N_S_talks_cells N_S_dues_cells N_S_sights_cells N_S_rule_cells a_S_settings v_S_people_width v_S_people_size a_S_people_cells v_S_talks_width v_S_talks_size a_S_talks_cells v_S_dues_width v_S_dues_size a_S_dues_cells v_S_sights_width v_S_sights_size a_S_sights_cells a_S_stake v_S_rule_width v_S_rule_size a_S_rule_cells)) rfl (st1 := [.long v1]) rfl (fun H locs hP hD hS => ?_)
  refine lv_lstore_n (lv' := [(3, .long v1), (0, .ref q_S), (1, .long x1)]) hx hb dX9_mixed_8 rfl hl (by decide) rfl (fun ls hl => ?_)
  refine lv_aload_n hx hb dX9_mixed_9 rfl (lv_at hl 1 rfl) ?_
  refine zget (C := RX9) (T := TX9) (N := 7) S hK hP 0 rfl rfl 3 (Nat.le_of_ble_eq_true rfl) zf_9 zw_83 rfl dX9_mixed_10 ?_
  refine lv_aload_n hx hb dX9_mixed_13 rfl (lv_at hl 1 rfl) ?_
  refine zget (C := RX9) (T := TX9) (N := 7) S hK hP 0 rfl rfl 2 (Nat.le_of_ble_eq_true rfl) zf_9 zw_82 rfl dX9_mixed_14 ?_
  refine lv_aload_n hx hb dX9_mixed_17 rfl (lv_at hl 1 rfl) ?_
  refine zget (C := RX9) (T := TX9) (N := 7) S hK hP 0 rfl rfl 1 (Nat.le_of_ble_eq_true rfl) zf_9 zw_81 rfl dX9_mixed_18 ?_
  refine lv_aload_n hx hb dX9_mixed_21 rfl (lv_at hl 1 rfl) ?_
  refine zget (C := RX9) (T := TX9) (N := 7) S hK hP 0 rfl rfl 0 (Nat.le_of_ble_eq_true rfl) zf_9 zw_80 rfl dX9_mixed_22 ?_
  refine lv_lload_n hx hb dX9_mixed_25 rfl (lv_at hl 0 rfl) ?_
  obtain ⟨v3, hc4, hg⟩ := zbd hg
  refine zcallV (rest := [.ref q_S_talks, .ref q_S_dues, .ref q_S_sights]) S (c_X7_mixed l D cI cJ cZ cA ga q_S_people q_S_people_cells u_S_people_limit N_S_people_cells v_S_people_width v_S_people_size a_S_people_cells v1 v3 hc4) (zgV zw_1072 zw_1073 zw_1074 zw_32 zw_1075) rfl hd_X7_mixed ⟨rfl, rfl⟩ ⟨Nat.le_of_ble_eq_true rfl, Nat.le_of_ble_eq_true rfl⟩ 2 7 rfl rfl rfl hl.1 rfl (Nat.le_of_ble_eq_true rfl) dX9_mixed_26 hP hD hS hA hK hG (isC := [2, 3]) rfl rfl rfl (w2 := (ws_X9_mixed cI cJ cZ cA q_S q_S_settings q_S_sights q_S_dues q_S_talks q_S_people q_S_people_cells q_S_talks_cells q_S_dues_cells q_S_sights_cells q_S_rule q_S_stake q_S_rule_cells u_S_people_limit u_S_talks_limit u_S_dues_limit u_S_sights_limit u_S_rule_limit N_S_people_cells N_S_talks_cells N_S_dues_cells N_S_sights_cells N_S_rule_cells a_S_settings v_S_people_width v_S_people_size a_S_people_cells v_S_talks_width v_S_talks_size a_S_talks_cells v_S_dues_width v_S_dues_size a_S_dues_cells v_S_sights_width v_S_sights_size a_S_sights_cells a_S_stake v_S_rule_width v_S_rule_size a_S_rule_cells)) rfl (st1 := [.long v3, .ref q_S_talks, .ref q_S_dues, .ref q_S_sights]) rfl (fun H locs hP hD hS => ?_)
  obtain ⟨v5, hc6, hg⟩ := zbd hg
  refine zcallV (rest := [.ref q_S_dues, .ref q_S_sights]) S (c_X7_mixed l D cI cJ cZ cA ga q_S_talks q_S_talks_cells u_S_talks_limit N_S_talks_cells v_S_talks_width v_S_talks_size a_S_talks_cells v3 v5 hc6) (zgV zw_1072 zw_1073 zw_1074 zw_32 zw_1075) rfl hd_X7_mixed ⟨rfl, rfl⟩ ⟨Nat.le_of_ble_eq_true rfl, Nat.le_of_ble_eq_true rfl⟩ 4 7 rfl rfl rfl hl.1 rfl (Nat.le_of_ble_eq_true rfl) dX9_mixed_29 hP hD hS hA hK hG (isC := [4, 5]) rfl rfl rfl (w2 := (ws_X9_mixed cI cJ cZ cA q_S q_S_settings q_S_sights q_S_dues q_S_talks q_S_people q_S_people_cells q_S_talks_cells q_S_dues_cells q_S_sights_cells q_S_rule q_S_stake q_S_rule_cells u_S_people_limit u_S_talks_limit u_S_dues_limit u_S_sights_limit u_S_rule_limit N_S_people_cells N_S_talks_cells N_S_dues_cells N_S_sights_cells N_S_rule_cells a_S_settings v_S_people_width v_S_people_size a_S_people_cells v_S_talks_width v_S_talks_size a_S_talks_cells v_S_dues_width v_S_dues_size a_S_dues_cells v_S_sights_width v_S_sights_size a_S_sights_cells a_S_stake v_S_rule_width v_S_rule_size a_S_rule_cells)) rfl (st1 := [.long v5, .ref q_S_dues, .ref q_S_sights]) rfl (fun H locs hP hD hS => ?_)
  obtain ⟨v7, hc8, hg⟩ := zbd hg
  refine zcallV (rest := [.ref q_S_sights]) S (c_X7_mixed l D cI cJ cZ cA ga q_S_dues q_S_dues_cells u_S_dues_limit N_S_dues_cells v_S_dues_width v_S_dues_size a_S_dues_cells v5 v7 hc8) (zgV zw_1072 zw_1073 zw_1074 zw_32 zw_1075) rfl hd_X7_mixed ⟨rfl, rfl⟩ ⟨Nat.le_of_ble_eq_true rfl, Nat.le_of_ble_eq_true rfl⟩ 6 7 rfl rfl rfl hl.1 rfl (Nat.le_of_ble_eq_true rfl) dX9_mixed_32 hP hD hS hA hK hG (isC := [6, 7]) rfl rfl rfl (w2 := (ws_X9_mixed cI cJ cZ cA q_S q_S_settings q_S_sights q_S_dues q_S_talks q_S_people q_S_people_cells q_S_talks_cells q_S_dues_cells q_S_sights_cells q_S_rule q_S_stake q_S_rule_cells u_S_people_limit u_S_talks_limit u_S_dues_limit u_S_sights_limit u_S_rule_limit N_S_people_cells N_S_talks_cells N_S_dues_cells N_S_sights_cells N_S_rule_cells a_S_settings v_S_people_width v_S_people_size a_S_people_cells v_S_talks_width v_S_talks_size a_S_talks_cells v_S_dues_width v_S_dues_size a_S_dues_cells v_S_sights_width v_S_sights_size a_S_sights_cells a_S_stake v_S_rule_width v_S_rule_size a_S_rule_cells)) rfl (st1 := [.long v7, .ref q_S_sights]) rfl (fun H locs hP hD hS => ?_)
  obtain ⟨v9, hc10, hg⟩ := zbd hg
  refine zcallV (rest := []) S (c_X7_mixed l D cI cJ cZ cA ga q_S_sights q_S_sights_cells u_S_sights_limit N_S_sights_cells v_S_sights_width v_S_sights_size a_S_sights_cells v7 v9 hc10) (zgV zw_1072 zw_1073 zw_1074 zw_32 zw_1075) rfl hd_X7_mixed ⟨rfl, rfl⟩ ⟨Nat.le_of_ble_eq_true rfl, Nat.le_of_ble_eq_true rfl⟩ 8 7 rfl rfl rfl hl.1 rfl (Nat.le_of_ble_eq_true rfl) dX9_mixed_35 hP hD hS hA hK hG (isC := [8, 9]) rfl rfl rfl (w2 := (ws_X9_mixed cI cJ cZ cA q_S q_S_settings q_S_sights q_S_dues q_S_talks q_S_people q_S_people_cells q_S_talks_cells q_S_dues_cells q_S_sights_cells q_S_rule q_S_stake q_S_rule_cells u_S_people_limit u_S_talks_limit u_S_dues_limit u_S_sights_limit u_S_rule_limit N_S_people_cells N_S_talks_cells N_S_dues_cells N_S_sights_cells N_S_rule_cells a_S_settings v_S_people_width v_S_people_size a_S_people_cells v_S_talks_width v_S_talks_size a_S_talks_cells v_S_dues_width v_S_dues_size a_S_dues_cells v_S_sights_width v_S_sights_size a_S_sights_cells a_S_stake v_S_rule_width v_S_rule_size a_S_rule_cells)) rfl (st1 := [.long v9]) rfl (fun H locs hP hD hS => ?_)
  refine lv_lstore_n (lv' := [(3, .long v9), (0, .ref q_S), (1, .long x1)]) hx hb dX9_mixed_38 rfl hl (by decide) rfl (fun ls hl => ?_)
  refine lv_aload_n hx hb dX9_mixed_39 rfl (lv_at hl 1 rfl) ?_
  refine zget (C := RX9) (T := TX9) (N := 7) S hK hP 0 rfl rfl 4 (Nat.le_of_ble_eq_true rfl) zf_9 zw_84 rfl dX9_mixed_40 ?_
  refine lv_lload_n hx hb dX9_mixed_43 rfl (lv_at hl 0 rfl) ?_
  refine lv_aload_n hx hb dX9_mixed_44 rfl (lv_at hl 1 rfl) ?_
  refine zget (C := RX9) (T := TX9) (N := 7) S hK hP 0 rfl rfl 6 (Nat.le_of_ble_eq_true rfl) zf_9 zw_86 rfl dX9_mixed_45 ?_
  obtain ⟨v11, hc12, hg⟩ := zbd hg
  refine zcallS (rest := [.ref q_S_rule]) S (c_X9_mixedWith l D cI cJ cZ cA ga q_S_stake 5 a_S_stake v9 v11 hc12) (zgS zw_1068 zw_1069 zw_23 zw_1070) rfl hd_X9_mixedWith ⟨rfl, rfl⟩ ⟨Nat.le_of_ble_eq_true rfl, Nat.le_of_ble_eq_true rfl⟩ rfl hl.1 rfl (Nat.le_of_ble_eq_true rfl) dX9_mixed_48 hP hD hS hA hK hG (isC := [10]) rfl rfl rfl (w2 := (ws_X9_mixed cI cJ cZ cA q_S q_S_settings q_S_sights q_S_dues q_S_talks q_S_people q_S_people_cells q_S_talks_cells q_S_dues_cells q_S_sights_cells q_S_rule q_S_stake q_S_rule_cells u_S_people_limit u_S_talks_limit u_S_dues_limit u_S_sights_limit u_S_rule_limit N_S_people_cells N_S_talks_cells N_S_dues_cells N_S_sights_cells N_S_rule_cells a_S_settings v_S_people_width v_S_people_size a_S_people_cells v_S_talks_width v_S_talks_size a_S_talks_cells v_S_dues_width v_S_dues_size a_S_dues_cells v_S_sights_width v_S_sights_size a_S_sights_cells a_S_stake v_S_rule_width v_S_rule_size a_S_rule_cells)) rfl (st1 := [.long v11, .ref q_S_rule]) rfl (fun H locs hP hD hS => ?_)
  obtain ⟨v13, hc14, hg⟩ := zbd hg
  refine zcallV (rest := []) S (c_X7_mixed l D cI cJ cZ cA ga q_S_rule q_S_rule_cells u_S_rule_limit N_S_rule_cells v_S_rule_width v_S_rule_size a_S_rule_cells v11 v13 hc14) (zgV zw_1072 zw_1073 zw_1074 zw_32 zw_1075) rfl hd_X7_mixed ⟨rfl, rfl⟩ ⟨Nat.le_of_ble_eq_true rfl, Nat.le_of_ble_eq_true rfl⟩ 11 7 rfl rfl rfl hl.1 rfl (Nat.le_of_ble_eq_true rfl) dX9_mixed_51 hP hD hS hA hK hG (isC := [11, 12]) rfl rfl rfl (w2 := (ws_X9_mixed cI cJ cZ cA q_S q_S_settings q_S_sights q_S_dues q_S_talks q_S_people q_S_people_cells q_S_talks_cells q_S_dues_cells q_S_sights_cells q_S_rule q_S_stake q_S_rule_cells u_S_people_limit u_S_talks_limit u_S_dues_limit u_S_sights_limit u_S_rule_limit N_S_people_cells N_S_talks_cells N_S_dues_cells N_S_sights_cells N_S_rule_cells a_S_settings v_S_people_width v_S_people_size a_S_people_cells v_S_talks_width v_S_talks_size a_S_talks_cells v_S_dues_width v_S_dues_size a_S_dues_cells v_S_sights_width v_S_sights_size a_S_sights_cells a_S_stake v_S_rule_width v_S_rule_size a_S_rule_cells)) rfl (st1 := [.long v13]) rfl (fun H locs hP hD hS => ?_)
  exact hret v13 hg _ _ _ _ hP hS dX9_mixed_54

/-! SpokenClock.digest()J -/
abbrev ws_X10_digest (cI cJ cZ cA : ClassId) (q_X q_X_fraction q_X_now q_X_now_settings q_X_now_people q_X_now_people_cells q_X_now_talks q_X_now_talks_cells q_X_now_dues q_X_now_dues_cells q_X_now_sights q_X_now_sights_cells q_X_now_stake q_X_now_rule q_X_now_rule_cells q_X_fraction_above q_X_fraction_above_limbs q_X_fraction_below q_X_fraction_below_limbs q_X_text : Nat) (u_X_draft : Value) (u_X_reader : Value) (u_X_rule : Value) (u_X_day : Value) (u_X_plan : Value) (u_X_guess : Value) (u_X_quarrel : Value) (u_X_firstImage : Value) (u_X_secondImage : Value) (u_X_kept : Value) (u_X_refusals : Value) (u_X_now_people_limit : Value) (u_X_now_talks_limit : Value) (u_X_now_dues_limit : Value) (u_X_now_sights_limit : Value) (u_X_now_rule_limit : Value) (u_X_fraction_term : Value) (u_X_text_width : Value) (u_X_text_limit : Value) (u_X_text_cells : Value) (N_X_now_people_cells : Nat) (N_X_now_talks_cells : Nat) (N_X_now_dues_cells : Nat) (N_X_now_sights_cells : Nat) (N_X_now_rule_cells : Nat) (a_X_now_settings : Nat → Int32) (v_X_now_people_width : Int32) (v_X_now_people_size : Int32) (a_X_now_people_cells : Nat → Int32) (v_X_now_talks_width : Int32) (v_X_now_talks_size : Int32) (a_X_now_talks_cells : Nat → Int32) (v_X_now_dues_width : Int32) (v_X_now_dues_size : Int32) (a_X_now_dues_cells : Nat → Int32) (v_X_now_sights_width : Int32) (v_X_now_sights_size : Int32) (a_X_now_sights_cells : Nat → Int32) (a_X_now_stake : Nat → Int32) (v_X_now_rule_width : Int32) (v_X_now_rule_size : Int32) (a_X_now_rule_cells : Nat → Int32) (a_X_fraction_above_limbs : Nat → Int32) (a_X_fraction_below_limbs : Nat → Int32) (v_X_text_size : Int32) : va_W := [(q_X, .inr (10, [.ref q_X_now, u_X_draft, .ref q_X_text, u_X_reader, u_X_rule, u_X_day, u_X_plan, u_X_guess, u_X_quarrel, .ref q_X_fraction, u_X_firstImage, u_X_secondImage, u_X_kept, u_X_refusals])), (q_X_now, .inr (9, [.ref q_X_now_people, .ref q_X_now_talks, .ref q_X_now_dues, .ref q_X_now_sights, .ref q_X_now_rule, .ref q_X_now_settings, .ref q_X_now_stake])), (q_X_now_settings, .inl (cI, 3, .inl a_X_now_settings)), (q_X_now_people, .inr (7, [.int v_X_now_people_width, u_X_now_people_limit, .ref q_X_now_people_cells, .int v_X_now_people_size])), (q_X_now_people_cells, .inl (cI, N_X_now_people_cells, .inl a_X_now_people_cells)), (q_X_now_talks, .inr (7, [.int v_X_now_talks_width, u_X_now_talks_limit, .ref q_X_now_talks_cells, .int v_X_now_talks_size])), (q_X_now_talks_cells, .inl (cI, N_X_now_talks_cells, .inl a_X_now_talks_cells)), (q_X_now_dues, .inr (7, [.int v_X_now_dues_width, u_X_now_dues_limit, .ref q_X_now_dues_cells, .int v_X_now_dues_size])), (q_X_now_dues_cells, .inl (cI, N_X_now_dues_cells, .inl a_X_now_dues_cells)), (q_X_now_sights, .inr (7, [.int v_X_now_sights_width, u_X_now_sights_limit, .ref q_X_now_sights_cells, .int v_X_now_sights_size])), (q_X_now_sights_cells, .inl (cI, N_X_now_sights_cells, .inl a_X_now_sights_cells)), (q_X_now_stake, .inl (cI, 5, .inl a_X_now_stake)), (q_X_now_rule, .inr (7, [.int v_X_now_rule_width, u_X_now_rule_limit, .ref q_X_now_rule_cells, .int v_X_now_rule_size])), (q_X_now_rule_cells, .inl (cI, N_X_now_rule_cells, .inl a_X_now_rule_cells)), (q_X_fraction, .inr (2, [.ref q_X_fraction_above, .ref q_X_fraction_below, u_X_fraction_term])), (q_X_fraction_above, .inr (0, [.ref q_X_fraction_above_limbs])), (q_X_fraction_above_limbs, .inl (cI, 8, .inl a_X_fraction_above_limbs)), (q_X_fraction_below, .inr (0, [.ref q_X_fraction_below_limbs])), (q_X_fraction_below_limbs, .inl (cI, 8, .inl a_X_fraction_below_limbs)), (q_X_text, .inr (7, [u_X_text_width, u_X_text_limit, u_X_text_cells, .int v_X_text_size]))]
abbrev rm_X10_digest : Room := { frames := 3, cells := 0, slots := 0, locals := 71 }
def g_X10_digest_6b (N_X_now_people_cells : Nat) (N_X_now_talks_cells : Nat) (N_X_now_dues_cells : Nat) (N_X_now_sights_cells : Nat) (N_X_now_rule_cells : Nat) (a_X_now_settings : Nat → Int32) (v_X_now_people_width : Int32) (v_X_now_people_size : Int32) (a_X_now_people_cells : Nat → Int32) (v_X_now_talks_width : Int32) (v_X_now_talks_size : Int32) (a_X_now_talks_cells : Nat → Int32) (v_X_now_dues_width : Int32) (v_X_now_dues_size : Int32) (a_X_now_dues_cells : Nat → Int32) (v_X_now_sights_width : Int32) (v_X_now_sights_size : Int32) (a_X_now_sights_cells : Nat → Int32) (a_X_now_stake : Nat → Int32) (v_X_now_rule_width : Int32) (v_X_now_rule_size : Int32) (a_X_now_rule_cells : Nat → Int32) (a_X_fraction_above_limbs : Nat → Int32) (a_X_fraction_below_limbs : Nat → Int32) (v_X_text_size : Int32) (k6 : Int64 → Int32 → Option (Int64)) (x1 : Int64) (x3 : Int32) : Option (Int64) :=
  if 5 < x3 then (
    (g_X9_mixed N_X_now_people_cells N_X_now_talks_cells N_X_now_dues_cells N_X_now_sights_cells N_X_now_rule_cells a_X_now_settings v_X_now_people_width v_X_now_people_size a_X_now_people_cells v_X_now_talks_width v_X_now_talks_size a_X_now_talks_cells v_X_now_dues_width v_X_now_dues_size a_X_now_dues_cells v_X_now_sights_width v_X_now_sights_size a_X_now_sights_cells a_X_now_stake v_X_now_rule_width v_X_now_rule_size a_X_now_rule_cells x1).bind fun v1 =>
    (g_X2_mixed a_X_fraction_above_limbs a_X_fraction_below_limbs v1).bind fun v3 =>
    some (v3)
  ) else (
    (g_X10_sizeOf v_X_now_people_size v_X_now_talks_size v_X_now_dues_size v_X_now_sights_size v_X_text_size v_X_now_rule_size x3).bind fun v5 =>
    k6 (((31 : Int64) * x1) + v5.toInt64) (x3 + 1)
  )
def g_X10_digest_6 (N_X_now_people_cells : Nat) (N_X_now_talks_cells : Nat) (N_X_now_dues_cells : Nat) (N_X_now_sights_cells : Nat) (N_X_now_rule_cells : Nat) (a_X_now_settings : Nat → Int32) (v_X_now_people_width : Int32) (v_X_now_people_size : Int32) (a_X_now_people_cells : Nat → Int32) (v_X_now_talks_width : Int32) (v_X_now_talks_size : Int32) (a_X_now_talks_cells : Nat → Int32) (v_X_now_dues_width : Int32) (v_X_now_dues_size : Int32) (a_X_now_dues_cells : Nat → Int32) (v_X_now_sights_width : Int32) (v_X_now_sights_size : Int32) (a_X_now_sights_cells : Nat → Int32) (a_X_now_stake : Nat → Int32) (v_X_now_rule_width : Int32) (v_X_now_rule_size : Int32) (a_X_now_rule_cells : Nat → Int32) (a_X_fraction_above_limbs : Nat → Int32) (a_X_fraction_below_limbs : Nat → Int32) (v_X_text_size : Int32) : Nat → Int64 → Int32 → Option (Int64)
  | 0, _, _ => none
  | n + 1, x1, x3 => g_X10_digest_6b N_X_now_people_cells N_X_now_talks_cells N_X_now_dues_cells N_X_now_sights_cells N_X_now_rule_cells a_X_now_settings v_X_now_people_width v_X_now_people_size a_X_now_people_cells v_X_now_talks_width v_X_now_talks_size a_X_now_talks_cells v_X_now_dues_width v_X_now_dues_size a_X_now_dues_cells v_X_now_sights_width v_X_now_sights_size a_X_now_sights_cells a_X_now_stake v_X_now_rule_width v_X_now_rule_size a_X_now_rule_cells a_X_fraction_above_limbs a_X_fraction_below_limbs v_X_text_size (g_X10_digest_6 N_X_now_people_cells N_X_now_talks_cells N_X_now_dues_cells N_X_now_sights_cells N_X_now_rule_cells a_X_now_settings v_X_now_people_width v_X_now_people_size a_X_now_people_cells v_X_now_talks_width v_X_now_talks_size a_X_now_talks_cells v_X_now_dues_width v_X_now_dues_size a_X_now_dues_cells v_X_now_sights_width v_X_now_sights_size a_X_now_sights_cells a_X_now_stake v_X_now_rule_width v_X_now_rule_size a_X_now_rule_cells a_X_fraction_above_limbs a_X_fraction_below_limbs v_X_text_size n) x1 x3
def g_X10_digest (N_X_now_people_cells : Nat) (N_X_now_talks_cells : Nat) (N_X_now_dues_cells : Nat) (N_X_now_sights_cells : Nat) (N_X_now_rule_cells : Nat) (a_X_now_settings : Nat → Int32) (v_X_now_people_width : Int32) (v_X_now_people_size : Int32) (a_X_now_people_cells : Nat → Int32) (v_X_now_talks_width : Int32) (v_X_now_talks_size : Int32) (a_X_now_talks_cells : Nat → Int32) (v_X_now_dues_width : Int32) (v_X_now_dues_size : Int32) (a_X_now_dues_cells : Nat → Int32) (v_X_now_sights_width : Int32) (v_X_now_sights_size : Int32) (a_X_now_sights_cells : Nat → Int32) (a_X_now_stake : Nat → Int32) (v_X_now_rule_width : Int32) (v_X_now_rule_size : Int32) (a_X_now_rule_cells : Nat → Int32) (a_X_fraction_above_limbs : Nat → Int32) (a_X_fraction_below_limbs : Nat → Int32) (v_X_text_size : Int32) : Option (Int64) :=
  g_X10_digest_6 N_X_now_people_cells N_X_now_talks_cells N_X_now_dues_cells N_X_now_sights_cells N_X_now_rule_cells a_X_now_settings v_X_now_people_width v_X_now_people_size a_X_now_people_cells v_X_now_talks_width v_X_now_talks_size a_X_now_talks_cells v_X_now_dues_width v_X_now_dues_size a_X_now_dues_cells v_X_now_sights_width v_X_now_sights_size a_X_now_sights_cells a_X_now_stake v_X_now_rule_width v_X_now_rule_size a_X_now_rule_cells a_X_fraction_above_limbs a_X_fraction_below_limbs v_X_text_size zF (701 : Int64) 0
theorem hd_X10_digest : yX10_digest.cls = RX10 ∧ yX10_digest.cls ≠ "java/lang/invoke/MethodHandle" ∧ yX10_digest.cls ≠ "java/lang/invoke/VarHandle" ∧ (parseMethodDescriptor yX10_digest.desc).map (fun d => d.parameters.length) = some 0 := by decide +kernel
set_option maxHeartbeats 4000000 in
set_option maxRecDepth 100000 in
theorem c_X10_digest (l : Launch) (D : va_G) (cI cJ cZ cA : ClassId) (ga : Nat → Nat) (q_X q_X_fraction q_X_now q_X_now_settings q_X_now_people q_X_now_people_cells q_X_now_talks q_X_now_talks_cells q_X_now_dues q_X_now_dues_cells q_X_now_sights q_X_now_sights_cells q_X_now_stake q_X_now_rule q_X_now_rule_cells q_X_fraction_above q_X_fraction_above_limbs q_X_fraction_below q_X_fraction_below_limbs q_X_text : Nat) (u_X_draft : Value) (u_X_reader : Value) (u_X_rule : Value) (u_X_day : Value) (u_X_plan : Value) (u_X_guess : Value) (u_X_quarrel : Value) (u_X_firstImage : Value) (u_X_secondImage : Value) (u_X_kept : Value) (u_X_refusals : Value) (u_X_now_people_limit : Value) (u_X_now_talks_limit : Value) (u_X_now_dues_limit : Value) (u_X_now_sights_limit : Value) (u_X_now_rule_limit : Value) (u_X_fraction_term : Value) (u_X_text_width : Value) (u_X_text_limit : Value) (u_X_text_cells : Value) (N_X_now_people_cells : Nat) (N_X_now_talks_cells : Nat) (N_X_now_dues_cells : Nat) (N_X_now_sights_cells : Nat) (N_X_now_rule_cells : Nat) (a_X_now_settings : Nat → Int32) (v_X_now_people_width : Int32) (v_X_now_people_size : Int32) (a_X_now_people_cells : Nat → Int32) (v_X_now_talks_width : Int32) (v_X_now_talks_size : Int32) (a_X_now_talks_cells : Nat → Int32) (v_X_now_dues_width : Int32) (v_X_now_dues_size : Int32) (a_X_now_dues_cells : Nat → Int32) (v_X_now_sights_width : Int32) (v_X_now_sights_size : Int32) (a_X_now_sights_cells : Nat → Int32) (a_X_now_stake : Nat → Int32) (v_X_now_rule_width : Int32) (v_X_now_rule_size : Int32) (a_X_now_rule_cells : Nat → Int32) (a_X_fraction_above_limbs : Nat → Int32) (a_X_fraction_below_limbs : Nat → Int32) (v_X_text_size : Int32) (o : Int64) (hg : g_X10_digest N_X_now_people_cells N_X_now_talks_cells N_X_now_dues_cells N_X_now_sights_cells N_X_now_rule_cells a_X_now_settings v_X_now_people_width v_X_now_people_size a_X_now_people_cells v_X_now_talks_width v_X_now_talks_size a_X_now_talks_cells v_X_now_dues_width v_X_now_dues_size a_X_now_dues_cells v_X_now_sights_width v_X_now_sights_size a_X_now_sights_cells a_X_now_stake v_X_now_rule_width v_X_now_rule_size a_X_now_rule_cells a_X_fraction_above_limbs a_X_fraction_below_limbs v_X_text_size = some o) : zM l yX10_digest (Cond.code yX10_digest cX10_digest 4 (some .long) :: wsL_law) rm_X10_digest D (zTy cI cJ cZ cA) ga [.ref q_X] (ws_X10_digest cI cJ cZ cA q_X q_X_fraction q_X_now q_X_now_settings q_X_now_people q_X_now_people_cells q_X_now_talks q_X_now_talks_cells q_X_now_dues q_X_now_dues_cells q_X_now_sights q_X_now_sights_cells q_X_now_stake q_X_now_rule q_X_now_rule_cells q_X_fraction_above q_X_fraction_above_limbs q_X_fraction_below q_X_fraction_below_limbs q_X_text u_X_draft u_X_reader u_X_rule u_X_day u_X_plan u_X_guess u_X_quarrel u_X_firstImage u_X_secondImage u_X_kept u_X_refusals u_X_now_people_limit u_X_now_talks_limit u_X_now_dues_limit u_X_now_sights_limit u_X_now_rule_limit u_X_fraction_term u_X_text_width u_X_text_limit u_X_text_cells N_X_now_people_cells N_X_now_talks_cells N_X_now_dues_cells N_X_now_sights_cells N_X_now_rule_cells a_X_now_settings v_X_now_people_width v_X_now_people_size a_X_now_people_cells v_X_now_talks_width v_X_now_talks_size a_X_now_talks_cells v_X_now_dues_width v_X_now_dues_size a_X_now_dues_cells v_X_now_sights_width v_X_now_sights_size a_X_now_sights_cells a_X_now_stake v_X_now_rule_width v_X_now_rule_size a_X_now_rule_cells a_X_fraction_above_limbs a_X_fraction_below_limbs v_X_text_size) (ws_X10_digest cI cJ cZ cA q_X q_X_fraction q_X_now q_X_now_settings q_X_now_people q_X_now_people_cells q_X_now_talks q_X_now_talks_cells q_X_now_dues q_X_now_dues_cells q_X_now_sights q_X_now_sights_cells q_X_now_stake q_X_now_rule q_X_now_rule_cells q_X_fraction_above q_X_fraction_above_limbs q_X_fraction_below q_X_fraction_below_limbs q_X_text u_X_draft u_X_reader u_X_rule u_X_day u_X_plan u_X_guess u_X_quarrel u_X_firstImage u_X_secondImage u_X_kept u_X_refusals u_X_now_people_limit u_X_now_talks_limit u_X_now_dues_limit u_X_now_sights_limit u_X_now_rule_limit u_X_fraction_term u_X_text_width u_X_text_limit u_X_text_cells N_X_now_people_cells N_X_now_talks_cells N_X_now_dues_cells N_X_now_sights_cells N_X_now_rule_cells a_X_now_settings v_X_now_people_width v_X_now_people_size a_X_now_people_cells v_X_now_talks_width v_X_now_talks_size a_X_now_talks_cells v_X_now_dues_width v_X_now_dues_size a_X_now_dues_cells v_X_now_sights_width v_X_now_sights_size a_X_now_sights_cells a_X_now_stake v_X_now_rule_width v_X_now_rule_size a_X_now_rule_cells a_X_fraction_above_limbs a_X_fraction_below_limbs v_X_text_size) (some (.long o)) := by
  refine zenterL (own := RX10) (by decide) rfl rfl (Nat.le_of_ble_eq_true rfl) ?_
  intro p e s m args below meth c A ls Q S hA hK hG hl hP hD hS hret0
  have hx := S.1
  have hb := S.2.1
  have ht : ∀ w, w ∈ wsL_law → w.before args s = true := fun w h => S.2.2.2.2 w (List.mem_cons_of_mem _ h)
  have hret : ∀ (r9 : Int64), (some (r9) : Option (Int64)) = some o → ∀ (H : Heap) (locs : List Loc) (pc : Nat) (ls : Array Slot), va_P D vwCl (ws_X10_digest cI cJ cZ cA q_X q_X_fraction q_X_now q_X_now_settings q_X_now_people q_X_now_people_cells q_X_now_talks q_X_now_talks_cells q_X_now_dues q_X_now_dues_cells q_X_now_sights q_X_now_sights_cells q_X_now_stake q_X_now_rule q_X_now_rule_cells q_X_fraction_above q_X_fraction_above_limbs q_X_fraction_below q_X_fraction_below_limbs q_X_text u_X_draft u_X_reader u_X_rule u_X_day u_X_plan u_X_guess u_X_quarrel u_X_firstImage u_X_secondImage u_X_kept u_X_refusals u_X_now_people_limit u_X_now_talks_limit u_X_now_dues_limit u_X_now_sights_limit u_X_now_rule_limit u_X_fraction_term u_X_text_width u_X_text_limit u_X_text_cells N_X_now_people_cells N_X_now_talks_cells N_X_now_dues_cells N_X_now_sights_cells N_X_now_rule_cells a_X_now_settings v_X_now_people_width v_X_now_people_size a_X_now_people_cells v_X_now_talks_width v_X_now_talks_size a_X_now_talks_cells v_X_now_dues_width v_X_now_dues_size a_X_now_dues_cells v_X_now_sights_width v_X_now_sights_size a_X_now_sights_cells a_X_now_stake v_X_now_rule_width v_X_now_rule_size a_X_now_rule_cells a_X_fraction_above_limbs a_X_fraction_below_limbs v_X_text_size) H → va_S A s.heap H locs → decode cX10_digest pc = .ok (.lreturn, 1) → W p l e rm_X10_digest s m args below meth c H locs 0 0 Q (F0 m pc ls [.long r9]) := by
    intro r9 he; cases he; exact hret0
  have hl : lv_has ls 4 [(0, .ref q_X)] := hl
  have B6 : ∀  (n : Nat) (x1 : Int64) (x3 : Int32) (H : Heap) (locs : List Loc) (ls : Array Slot) (hl : lv_has ls 4 [(0, .ref q_X), (1, .long x1), (3, .int x3)]) (hP : va_P D vwCl (ws_X10_digest cI cJ cZ cA q_X q_X_fraction q_X_now q_X_now_settings q_X_now_people q_X_now_people_cells q_X_now_talks q_X_now_talks_cells q_X_now_dues q_X_now_dues_cells q_X_now_sights q_X_now_sights_cells q_X_now_stake q_X_now_rule q_X_now_rule_cells q_X_fraction_above q_X_fraction_above_limbs q_X_fraction_below q_X_fraction_below_limbs q_X_text u_X_draft u_X_reader u_X_rule u_X_day u_X_plan u_X_guess u_X_quarrel u_X_firstImage u_X_secondImage u_X_kept u_X_refusals u_X_now_people_limit u_X_now_talks_limit u_X_now_dues_limit u_X_now_sights_limit u_X_now_rule_limit u_X_fraction_term u_X_text_width u_X_text_limit u_X_text_cells N_X_now_people_cells N_X_now_talks_cells N_X_now_dues_cells N_X_now_sights_cells N_X_now_rule_cells a_X_now_settings v_X_now_people_width v_X_now_people_size a_X_now_people_cells v_X_now_talks_width v_X_now_talks_size a_X_now_talks_cells v_X_now_dues_width v_X_now_dues_size a_X_now_dues_cells v_X_now_sights_width v_X_now_sights_size a_X_now_sights_cells a_X_now_stake v_X_now_rule_width v_X_now_rule_size a_X_now_rule_cells a_X_fraction_above_limbs a_X_fraction_below_limbs v_X_text_size) H) (hD : va_D A (ws_X10_digest cI cJ cZ cA q_X q_X_fraction q_X_now q_X_now_settings q_X_now_people q_X_now_people_cells q_X_now_talks q_X_now_talks_cells q_X_now_dues q_X_now_dues_cells q_X_now_sights q_X_now_sights_cells q_X_now_stake q_X_now_rule q_X_now_rule_cells q_X_fraction_above q_X_fraction_above_limbs q_X_fraction_below q_X_fraction_below_limbs q_X_text u_X_draft u_X_reader u_X_rule u_X_day u_X_plan u_X_guess u_X_quarrel u_X_firstImage u_X_secondImage u_X_kept u_X_refusals u_X_now_people_limit u_X_now_talks_limit u_X_now_dues_limit u_X_now_sights_limit u_X_now_rule_limit u_X_fraction_term u_X_text_width u_X_text_limit u_X_text_cells N_X_now_people_cells N_X_now_talks_cells N_X_now_dues_cells N_X_now_sights_cells N_X_now_rule_cells a_X_now_settings v_X_now_people_width v_X_now_people_size a_X_now_people_cells v_X_now_talks_width v_X_now_talks_size a_X_now_talks_cells v_X_now_dues_width v_X_now_dues_size a_X_now_dues_cells v_X_now_sights_width v_X_now_sights_size a_X_now_sights_cells a_X_now_stake v_X_now_rule_width v_X_now_rule_size a_X_now_rule_cells a_X_fraction_above_limbs a_X_fraction_below_limbs v_X_text_size)) (hS : va_S A s.heap H locs), g_X10_digest_6 N_X_now_people_cells N_X_now_talks_cells N_X_now_dues_cells N_X_now_sights_cells N_X_now_rule_cells a_X_now_settings v_X_now_people_width v_X_now_people_size a_X_now_people_cells v_X_now_talks_width v_X_now_talks_size a_X_now_talks_cells v_X_now_dues_width v_X_now_dues_size a_X_now_dues_cells v_X_now_sights_width v_X_now_sights_size a_X_now_sights_cells a_X_now_stake v_X_now_rule_width v_X_now_rule_size a_X_now_rule_cells a_X_fraction_above_limbs a_X_fraction_below_limbs v_X_text_size n x1 x3 = some o → W p l e rm_X10_digest s m args below meth c H locs 0 0 Q (F0 m 6 ls []) := by
    intro  n
    induction n with
    | zero => intro x1 x3 H locs ls hl hP hD hS hg; exact nomatch (show (none : Option (Int64)) = some o from hg)
    | succ n ih =>
      intro x1 x3 H locs ls hl hP hD hS hg
      have hg : g_X10_digest_6b N_X_now_people_cells N_X_now_talks_cells N_X_now_dues_cells N_X_now_sights_cells N_X_now_rule_cells a_X_now_settings v_X_now_people_width v_X_now_people_size a_X_now_people_cells v_X_now_talks_width v_X_now_talks_size a_X_now_talks_cells v_X_now_dues_width v_X_now_dues_size a_X_now_dues_cells v_X_now_sights_width v_X_now_sights_size a_X_now_sights_cells a_X_now_stake v_X_now_rule_width v_X_now_rule_size a_X_now_rule_cells a_X_fraction_above_limbs a_X_fraction_below_limbs v_X_text_size (g_X10_digest_6 N_X_now_people_cells N_X_now_talks_cells N_X_now_dues_cells N_X_now_sights_cells N_X_now_rule_cells a_X_now_settings v_X_now_people_width v_X_now_people_size a_X_now_people_cells v_X_now_talks_width v_X_now_talks_size a_X_now_talks_cells v_X_now_dues_width v_X_now_dues_size a_X_now_dues_cells v_X_now_sights_width v_X_now_sights_size a_X_now_sights_cells a_X_now_stake v_X_now_rule_width v_X_now_rule_size a_X_now_rule_cells a_X_fraction_above_limbs a_X_fraction_below_limbs v_X_text_size n) x1 x3 = some o := hg
      refine lv_iload_n hx hb dX10_digest_6 rfl (lv_at hl 2 rfl) ?_
      refine lv_iconst (v := 5) hx hb dX10_digest_7 (by decide) ?_
      refine lv_icmp_gt (tgt := 30) hx hb dX10_digest_8 (by decide) (fun h8 => ?_) (fun h8 => ?_)
      · have hg := zp hg h8
        refine lv_aload_n hx hb dX10_digest_30 rfl (lv_at hl 0 rfl) ?_
        refine zget (C := RX10) (T := TX10) (N := 14) S hK hP 0 rfl rfl 9 (Nat.le_of_ble_eq_true rfl) zf_10 zw_20 rfl dX10_digest_31 ?_
        refine lv_aload_n hx hb dX10_digest_34 rfl (lv_at hl 0 rfl) ?_
        refine zget (C := RX10) (T := TX10) (N := 14) S hK hP 0 rfl rfl 0 (Nat.le_of_ble_eq_true rfl) zf_10 zw_51 rfl dX10_digest_35 ?_
        refine lv_lload_n hx hb dX10_digest_38 rfl (lv_at hl 1 rfl) ?_
        obtain ⟨v1, hc2, hg⟩ := zbd hg
        refine zcallV (rest := [.ref q_X_fraction]) S (c_X9_mixed l D cI cJ cZ cA ga q_X_now q_X_now_settings q_X_now_sights q_X_now_dues q_X_now_talks q_X_now_people q_X_now_people_cells q_X_now_talks_cells q_X_now_dues_cells q_X_now_sights_cells q_X_now_rule q_X_now_stake q_X_now_rule_cells u_X_now_people_limit u_X_now_talks_limit u_X_now_dues_limit u_X_now_sights_limit u_X_now_rule_limit N_X_now_people_cells N_X_now_talks_cells N_X_now_dues_cells N_X_now_sights_cells N_X_now_rule_cells a_X_now_settings v_X_now_people_width v_X_now_people_size a_X_now_people_cells v_X_now_talks_width v_X_now_talks_size a_X_now_talks_cells v_X_now_dues_width v_X_now_dues_size a_X_now_dues_cells v_X_now_sights_width v_X_now_sights_size a_X_now_sights_cells a_X_now_stake v_X_now_rule_width v_X_now_rule_size a_X_now_rule_cells x1 v1 hc2) (zgV zw_1064 zw_1065 zw_1066 zw_23 zw_1067) rfl hd_X9_mixed ⟨rfl, rfl⟩ ⟨Nat.le_of_ble_eq_true rfl, Nat.le_of_ble_eq_true rfl⟩ 1 9 rfl rfl rfl hl.1 rfl (Nat.le_of_ble_eq_true rfl) dX10_digest_39 hP hD hS hA hK hG (isC := [1, 2, 3, 4, 5, 6, 7, 8, 9, 10, 11, 12, 13]) rfl rfl rfl (w2 := (ws_X10_digest cI cJ cZ cA q_X q_X_fraction q_X_now q_X_now_settings q_X_now_people q_X_now_people_cells q_X_now_talks q_X_now_talks_cells q_X_now_dues q_X_now_dues_cells q_X_now_sights q_X_now_sights_cells q_X_now_stake q_X_now_rule q_X_now_rule_cells q_X_fraction_above q_X_fraction_above_limbs q_X_fraction_below q_X_fraction_below_limbs q_X_text u_X_draft u_X_reader u_X_rule u_X_day u_X_plan u_X_guess u_X_quarrel u_X_firstImage u_X_secondImage u_X_kept u_X_refusals u_X_now_people_limit u_X_now_talks_limit u_X_now_dues_limit u_X_now_sights_limit u_X_now_rule_limit u_X_fraction_term u_X_text_width u_X_text_limit u_X_text_cells N_X_now_people_cells N_X_now_talks_cells N_X_now_dues_cells N_X_now_sights_cells N_X_now_rule_cells a_X_now_settings v_X_now_people_width v_X_now_people_size a_X_now_people_cells v_X_now_talks_width v_X_now_talks_size a_X_now_talks_cells v_X_now_dues_width v_X_now_dues_size a_X_now_dues_cells v_X_now_sights_width v_X_now_sights_size a_X_now_sights_cells a_X_now_stake v_X_now_rule_width v_X_now_rule_size a_X_now_rule_cells a_X_fraction_above_limbs a_X_fraction_below_limbs v_X_text_size)) rfl (st1 := [.long v1, .ref q_X_fraction]) rfl (fun H locs hP hD hS => ?_)
        obtain ⟨v3, hc4, hg⟩ := zbd hg
        refine zcallV (rest := []) S (c_X2_mixed l D cI cJ cZ cA ga q_X_fraction q_X_fraction_below q_X_fraction_above q_X_fraction_above_limbs q_X_fraction_below_limbs u_X_fraction_term a_X_fraction_above_limbs a_X_fraction_below_limbs v1 v3 hc4) (zgV zw_1077 zw_1078 zw_1079 zw_19 zw_1080) rfl hd_X2_mixed ⟨rfl, rfl⟩ ⟨Nat.le_of_ble_eq_true rfl, Nat.le_of_ble_eq_true rfl⟩ 14 2 rfl rfl rfl hl.1 rfl (Nat.le_of_ble_eq_true rfl) dX10_digest_42 hP hD hS hA hK hG (isC := [14, 15, 16, 17, 18]) rfl rfl rfl (w2 := (ws_X10_digest cI cJ cZ cA q_X q_X_fraction q_X_now q_X_now_settings q_X_now_people q_X_now_people_cells q_X_now_talks q_X_now_talks_cells q_X_now_dues q_X_now_dues_cells q_X_now_sights q_X_now_sights_cells q_X_now_stake q_X_now_rule q_X_now_rule_cells q_X_fraction_above q_X_fraction_above_limbs q_X_fraction_below q_X_fraction_below_limbs q_X_text u_X_draft u_X_reader u_X_rule u_X_day u_X_plan u_X_guess u_X_quarrel u_X_firstImage u_X_secondImage u_X_kept u_X_refusals u_X_now_people_limit u_X_now_talks_limit u_X_now_dues_limit u_X_now_sights_limit u_X_now_rule_limit u_X_fraction_term u_X_text_width u_X_text_limit u_X_text_cells N_X_now_people_cells N_X_now_talks_cells N_X_now_dues_cells N_X_now_sights_cells N_X_now_rule_cells a_X_now_settings v_X_now_people_width v_X_now_people_size a_X_now_people_cells v_X_now_talks_width v_X_now_talks_size a_X_now_talks_cells v_X_now_dues_width v_X_now_dues_size a_X_now_dues_cells v_X_now_sights_width v_X_now_sights_size a_X_now_sights_cells a_X_now_stake v_X_now_rule_width v_X_now_rule_size a_X_now_rule_cells a_X_fraction_above_limbs a_X_fraction_below_limbs v_X_text_size)) rfl (st1 := [.long v3]) rfl (fun H locs hP hD hS => ?_)
        exact hret v3 hg _ _ _ _ hP hS dX10_digest_45
      · have hg := zn hg h8
        refine lv_ldc2 (v := 31) hx hb S.2.2.2.1 (ht _ zw_1063) dX10_digest_11 ?_
        refine lv_lload_n hx hb dX10_digest_14 rfl (lv_at hl 1 rfl) ?_
        refine lv_lmul hx hb dX10_digest_15 ?_
        refine lv_aload_n hx hb dX10_digest_16 rfl (lv_at hl 0 rfl) ?_
        refine lv_iload_n hx hb dX10_digest_17 rfl (lv_at hl 2 rfl) ?_
        obtain ⟨v5, hc6, hg⟩ := zbd hg
        refine zcallV (rest := [.long ((31 : Int64) * x1)]) S (c_X10_sizeOf l D cI cJ cZ cA ga q_X q_X_now q_X_now_people q_X_now_talks q_X_now_dues q_X_now_sights q_X_text q_X_now_rule u_X_draft u_X_reader u_X_rule u_X_day u_X_plan u_X_guess u_X_quarrel (.ref q_X_fraction) u_X_firstImage u_X_secondImage u_X_kept u_X_refusals (.ref q_X_now_settings) (.ref q_X_now_stake) (.int v_X_now_people_width) u_X_now_people_limit (.ref q_X_now_people_cells) (.int v_X_now_talks_width) u_X_now_talks_limit (.ref q_X_now_talks_cells) (.int v_X_now_dues_width) u_X_now_dues_limit (.ref q_X_now_dues_cells) (.int v_X_now_sights_width) u_X_now_sights_limit (.ref q_X_now_sights_cells) u_X_text_width u_X_text_limit u_X_text_cells (.int v_X_now_rule_width) u_X_now_rule_limit (.ref q_X_now_rule_cells) v_X_now_people_size v_X_now_talks_size v_X_now_dues_size v_X_now_sights_size v_X_text_size v_X_now_rule_size x3 v5 hc6) (zgV zw_1044 zw_1045 zw_1046 zw_2 zw_1047) rfl hd_X10_sizeOf ⟨rfl, rfl⟩ ⟨Nat.le_of_ble_eq_true rfl, Nat.le_of_ble_eq_true rfl⟩ 0 10 rfl rfl rfl hl.1 rfl (Nat.le_of_ble_eq_true rfl) dX10_digest_18 hP hD hS hA hK hG (isC := [0, 1, 3, 5, 7, 9, 19, 12]) rfl rfl rfl (w2 := (ws_X10_digest cI cJ cZ cA q_X q_X_fraction q_X_now q_X_now_settings q_X_now_people q_X_now_people_cells q_X_now_talks q_X_now_talks_cells q_X_now_dues q_X_now_dues_cells q_X_now_sights q_X_now_sights_cells q_X_now_stake q_X_now_rule q_X_now_rule_cells q_X_fraction_above q_X_fraction_above_limbs q_X_fraction_below q_X_fraction_below_limbs q_X_text u_X_draft u_X_reader u_X_rule u_X_day u_X_plan u_X_guess u_X_quarrel u_X_firstImage u_X_secondImage u_X_kept u_X_refusals u_X_now_people_limit u_X_now_talks_limit u_X_now_dues_limit u_X_now_sights_limit u_X_now_rule_limit u_X_fraction_term u_X_text_width u_X_text_limit u_X_text_cells N_X_now_people_cells N_X_now_talks_cells N_X_now_dues_cells N_X_now_sights_cells N_X_now_rule_cells a_X_now_settings v_X_now_people_width v_X_now_people_size a_X_now_people_cells v_X_now_talks_width v_X_now_talks_size a_X_now_talks_cells v_X_now_dues_width v_X_now_dues_size a_X_now_dues_cells v_X_now_sights_width v_X_now_sights_size a_X_now_sights_cells a_X_now_stake v_X_now_rule_width v_X_now_rule_size a_X_now_rule_cells a_X_fraction_above_limbs a_X_fraction_below_limbs v_X_text_size)) rfl (st1 := [.int v5, .long ((31 : Int64) * x1)]) rfl (fun H locs hP hD hS => ?_)
        refine lv_i2l hx hb dX10_digest_21 rfl ?_
        refine lv_ladd hx hb dX10_digest_22 ?_
        refine lv_lstore_n (lv' := [(1, .long (((31 : Int64) * x1) + v5.toInt64)), (0, .ref q_X), (3, .int x3)]) hx hb dX10_digest_23 rfl hl (by decide) rfl (fun ls hl => ?_)
        refine lv_iinc (k := 2) (v := x3 + 1) (lv' := [(3, .int (x3 + 1)), (1, .long (((31 : Int64) * x1) + v5.toInt64)), (0, .ref q_X)]) hx hb dX10_digest_24 hl rfl (zinc (by decide)) (by decide) rfl (fun ls hl => ?_)
        refine lv_goto (tgt := 6) hx hb dX10_digest_27 (by decide) ?_
        exact ih (((31 : Int64) * x1) + v5.toInt64) (x3 + 1) _ _ _ (lv_sub hl [2, 1, 0] rfl) hP hD hS hg
  refine lv_ldc2 (v := 701) hx hb S.2.2.2.1 (ht _ zw_1062) dX10_digest_0 ?_
  refine lv_lstore_n (lv' := [(1, .long (701 : Int64)), (0, .ref q_X)]) hx hb dX10_digest_3 rfl hl (by decide) rfl (fun ls hl => ?_)
  refine lv_iconst (v := 0) hx hb dX10_digest_4 (by decide) ?_
  refine lv_istore_n (lv' := [(3, .int 0), (1, .long (701 : Int64)), (0, .ref q_X)]) hx hb dX10_digest_5 rfl hl (by decide) rfl (fun ls hl => ?_)
  exact B6 zF (701 : Int64) 0 _ _ _ (lv_sub hl [2, 1, 0] rfl) hP hD hS hg

/-! SpokenClockModel.in(JJJ)Z -/
abbrev ws_X11_in (cI cJ cZ cA : ClassId) : va_W := []
abbrev rm_X11_in : Room := { frames := 0, cells := 0, slots := 0, locals := 0 }
def g_X11_in (x0 : Int64) (x2 : Int64) (x4 : Int64) : Option (Int32) :=
  if (lg_cmp x0 x2) < 0 then (
    some (0)
  ) else (
    if 0 < (lg_cmp x0 x4) then (
      some (0)
    ) else (
      some (1)
    )
  )
theorem hd_X11_in : yX11_in.cls ≠ "java/lang/invoke/MethodHandle" ∧ yX11_in.cls ≠ "java/lang/invoke/VarHandle" ∧ (parseMethodDescriptor yX11_in.desc).map (fun d => d.parameters.length) = some 3 := by decide +kernel
set_option maxHeartbeats 4000000 in
set_option maxRecDepth 100000 in
theorem c_X11_in (l : Launch) (D : va_G) (cI cJ cZ cA : ClassId) (ga : Nat → Nat) (x0 : Int64) (x2 : Int64) (x4 : Int64) (o : Int32) (hg : g_X11_in x0 x2 x4 = some o) : zM l yX11_in (Cond.code yX11_in cX11_in 6 (some .boolean) :: wsL_law) rm_X11_in D (zTy cI cJ cZ cA) ga [.long x0, .long x2, .long x4] (ws_X11_in cI cJ cZ cA) (ws_X11_in cI cJ cZ cA) (some (.int o)) := by
  refine zenterN (own := RX11) (by decide) rfl rfl (Nat.le_of_ble_eq_true rfl) ?_
  intro p e s m args below meth c A ls Q S hA hK hG hl hP hD hS hret0
  have hx := S.1
  have hb := S.2.1
  have ht : ∀ w, w ∈ wsL_law → w.before args s = true := fun w h => S.2.2.2.2 w (List.mem_cons_of_mem _ h)
  have hret : ∀ (r9 : Int32), (some (r9) : Option (Int32)) = some o → narrow .boolean (.int r9) = .int r9 → ∀ (H : Heap) (locs : List Loc) (pc : Nat) (ls : Array Slot), va_P D vwCl (ws_X11_in cI cJ cZ cA) H → va_S A s.heap H locs → decode cX11_in pc = .ok (.ireturn, 1) → W p l e rm_X11_in s m args below meth c H locs 0 0 Q (F0 m pc ls [.int r9]) := by
    intro r9 he; cases he; exact hret0
  have hl : lv_has ls 6 [(0, .long x0), (2, .long x2), (4, .long x4)] := hl
  refine lv_lload_n hx hb dX11_in_0 rfl (lv_at hl 0 rfl) ?_
  refine lv_lload_n hx hb dX11_in_1 rfl (lv_at hl 1 rfl) ?_
  refine W.lcmp hx hb dX11_in_2 ?_
  refine lv_if_lt (tgt := 17) hx hb dX11_in_3 (by decide) (fun h3 => ?_) (fun h3 => ?_)
  · have hg := zp hg h3
    refine lv_iconst (v := 0) hx hb dX11_in_17 (by decide) ?_
    exact hret 0 hg (zb01 (Or.inl rfl)) _ _ _ _ hP hS dX11_in_18
  · have hg := zn hg h3
    refine lv_lload_n hx hb dX11_in_6 rfl (lv_at hl 0 rfl) ?_
    refine lv_lload hx hb dX11_in_7 (lv_at hl 2 rfl) ?_
    refine W.lcmp hx hb dX11_in_9 ?_
    refine lv_if_gt (tgt := 17) hx hb dX11_in_10 (by decide) (fun h10 => ?_) (fun h10 => ?_)
    · have hg := zp hg h10
      refine lv_iconst (v := 0) hx hb dX11_in_17 (by decide) ?_
      exact hret 0 hg (zb01 (Or.inl rfl)) _ _ _ _ hP hS dX11_in_18
    · have hg := zn hg h10
      refine lv_iconst (v := 1) hx hb dX11_in_13 (by decide) ?_
      refine lv_goto (tgt := 18) hx hb dX11_in_14 (by decide) ?_
      exact hret 1 hg (zb01 (Or.inr rfl)) _ _ _ _ hP hS dX11_in_18

/-! SpokenClockModel.refuse(I)I -/
abbrev ws_X11_refuse (cI cJ cZ cA : ClassId) (q_M q_M_refused : Nat) (u_M_now : Value) (u_M_images : Value) (u_M_kept : Value) (u_M_text : Value) (u_M_size : Value) (u_M_sign : Value) (u_M_manyAbove : Value) (u_M_manyBelow : Value) (u_M_above : Value) (u_M_below : Value) (u_M_at : Value) (u_M_begin : Value) (u_M_kind : Value) (u_M_value : Value) (u_M_read : Value) (u_M_acts : Value) (u_M_act : Value) (u_M_waits : Value) (u_M_wait : Value) (u_M_held : Value) (u_M_place : Value) (u_M_heap : Value) (u_M_clocks : Value) (u_M_counts : Value) (u_M_talking : Value) (u_M_most : Value) (u_M_hasA : Value) (u_M_hasB : Value) (u_M_talks : Value) (u_M_big : Value) (a_M_refused : Nat → Int32) : va_W := [(q_M, .inr (11, [u_M_now, u_M_images, u_M_kept, u_M_text, u_M_size, u_M_sign, u_M_manyAbove, u_M_manyBelow, u_M_above, u_M_below, .ref q_M_refused, u_M_at, u_M_begin, u_M_kind, u_M_value, u_M_read, u_M_acts, u_M_act, u_M_waits, u_M_wait, u_M_held, u_M_place, u_M_heap, u_M_clocks, u_M_counts, u_M_talking, u_M_most, u_M_hasA, u_M_hasB, u_M_talks, u_M_big])), (q_M_refused, .inl (cI, 3, .inl a_M_refused))]
abbrev rm_X11_refuse : Room := { frames := 0, cells := 0, slots := 0, locals := 0 }
def g_X11_refuse (x1 : Int32) (a_M_refused : Nat → Int32) : Option (Int32 × (Nat → Int32)) :=
  if ((-2) - x1) < 0 ∨ 3 ≤ ((-2) - x1).toNatClampNeg then none else
  if ((-2) - x1) < 0 ∨ 3 ≤ ((-2) - x1).toNatClampNeg then none else
  some (x1, upd a_M_refused (((-2) - x1).toNatClampNeg) ((a_M_refused (((-2) - x1).toNatClampNeg)) + 1))
theorem hd_X11_refuse : yX11_refuse.cls = RX11 ∧ yX11_refuse.cls ≠ "java/lang/invoke/MethodHandle" ∧ yX11_refuse.cls ≠ "java/lang/invoke/VarHandle" ∧ (parseMethodDescriptor yX11_refuse.desc).map (fun d => d.parameters.length) = some 1 := by decide +kernel
set_option maxHeartbeats 4000000 in
set_option maxRecDepth 100000 in
theorem c_X11_refuse (l : Launch) (D : va_G) (cI cJ cZ cA : ClassId) (ga : Nat → Nat) (q_M q_M_refused : Nat) (u_M_now : Value) (u_M_images : Value) (u_M_kept : Value) (u_M_text : Value) (u_M_size : Value) (u_M_sign : Value) (u_M_manyAbove : Value) (u_M_manyBelow : Value) (u_M_above : Value) (u_M_below : Value) (u_M_at : Value) (u_M_begin : Value) (u_M_kind : Value) (u_M_value : Value) (u_M_read : Value) (u_M_acts : Value) (u_M_act : Value) (u_M_waits : Value) (u_M_wait : Value) (u_M_held : Value) (u_M_place : Value) (u_M_heap : Value) (u_M_clocks : Value) (u_M_counts : Value) (u_M_talking : Value) (u_M_most : Value) (u_M_hasA : Value) (u_M_hasB : Value) (u_M_talks : Value) (u_M_big : Value) (a_M_refused : Nat → Int32) (x1 : Int32) (o : Int32 × (Nat → Int32)) (hg : g_X11_refuse x1 a_M_refused = some o) : zM l yX11_refuse (Cond.code yX11_refuse cX11_refuse 2 (some .int) :: wsL_law) rm_X11_refuse D (zTy cI cJ cZ cA) ga [.ref q_M, .int x1] (ws_X11_refuse cI cJ cZ cA q_M q_M_refused u_M_now u_M_images u_M_kept u_M_text u_M_size u_M_sign u_M_manyAbove u_M_manyBelow u_M_above u_M_below u_M_at u_M_begin u_M_kind u_M_value u_M_read u_M_acts u_M_act u_M_waits u_M_wait u_M_held u_M_place u_M_heap u_M_clocks u_M_counts u_M_talking u_M_most u_M_hasA u_M_hasB u_M_talks u_M_big a_M_refused) (ws_X11_refuse cI cJ cZ cA q_M q_M_refused u_M_now u_M_images u_M_kept u_M_text u_M_size u_M_sign u_M_manyAbove u_M_manyBelow u_M_above u_M_below u_M_at u_M_begin u_M_kind u_M_value u_M_read u_M_acts u_M_act u_M_waits u_M_wait u_M_held u_M_place u_M_heap u_M_clocks u_M_counts u_M_talking u_M_most u_M_hasA u_M_hasB u_M_talks u_M_big o.2) (some (.int o.1)) := by
  refine zenterI (own := RX11) (by decide) rfl rfl (Nat.le_of_ble_eq_true rfl) ?_
  intro p e s m args below meth c A ls Q S hA hK hG hl hP hD hS hret0
  have hx := S.1
  have hb := S.2.1
  have ht : ∀ w, w ∈ wsL_law → w.before args s = true := fun w h => S.2.2.2.2 w (List.mem_cons_of_mem _ h)
  have hret : ∀ (r9 : Int32) (a_M_refused : Nat → Int32), (some (r9, a_M_refused) : Option (Int32 × (Nat → Int32))) = some o → ∀ (H : Heap) (locs : List Loc) (pc : Nat) (ls : Array Slot), va_P D vwCl (ws_X11_refuse cI cJ cZ cA q_M q_M_refused u_M_now u_M_images u_M_kept u_M_text u_M_size u_M_sign u_M_manyAbove u_M_manyBelow u_M_above u_M_below u_M_at u_M_begin u_M_kind u_M_value u_M_read u_M_acts u_M_act u_M_waits u_M_wait u_M_held u_M_place u_M_heap u_M_clocks u_M_counts u_M_talking u_M_most u_M_hasA u_M_hasB u_M_talks u_M_big a_M_refused) H → va_S A s.heap H locs → decode cX11_refuse pc = .ok (.ireturn, 1) → W p l e rm_X11_refuse s m args below meth c H locs 0 0 Q (F0 m pc ls [.int r9]) := by
    intro r9 a_M_refused he; cases he; exact hret0
  have hl : lv_has ls 2 [(0, .ref q_M), (1, .int x1)] := hl
  refine lv_aload_n hx hb dX11_refuse_0 rfl (lv_at hl 0 rfl) ?_
  refine zget (C := RX11) (T := TX11) (N := 31) S hK hP 0 rfl rfl 10 (Nat.le_of_ble_eq_true rfl) zf_11 zw_156 rfl dX11_refuse_1 ?_
  refine lv_bipush (v := (-2)) hx hb dX11_refuse_4 (by decide) ?_
  refine lv_iload_n hx hb dX11_refuse_6 rfl (lv_at hl 1 rfl) ?_
  refine lv_isub hx hb dX11_refuse_7 ?_
  refine lv_dup2_11 hx hb dX11_refuse_8 rfl rfl ?_
  obtain ⟨h1, hg⟩ := zck hg
  refine ziald hx hb hK hP 1 0 rfl rfl (j := (((-2) - x1).toNatClampNeg)) h1 rfl dX11_refuse_9 ?_
  refine lv_iconst (v := 1) hx hb dX11_refuse_10 (by decide) ?_
  refine lv_iadd hx hb dX11_refuse_11 ?_
  obtain ⟨h2, hg⟩ := zck hg
  refine ziast hx hb hK hP hD hS 1 0 rfl rfl (j := (((-2) - x1).toNatClampNeg)) h2 rfl dX11_refuse_12 (w2 := (ws_X11_refuse cI cJ cZ cA q_M q_M_refused u_M_now u_M_images u_M_kept u_M_text u_M_size u_M_sign u_M_manyAbove u_M_manyBelow u_M_above u_M_below u_M_at u_M_begin u_M_kind u_M_value u_M_read u_M_acts u_M_act u_M_waits u_M_wait u_M_held u_M_place u_M_heap u_M_clocks u_M_counts u_M_talking u_M_most u_M_hasA u_M_hasB u_M_talks u_M_big (upd a_M_refused (((-2) - x1).toNatClampNeg) ((a_M_refused (((-2) - x1).toNatClampNeg)) + 1)))) rfl (fun H locs hP hD hS => ?_)
  refine lv_iload_n hx hb dX11_refuse_13 rfl (lv_at hl 1 rfl) ?_
  exact hret x1 (upd a_M_refused (((-2) - x1).toNatClampNeg) ((a_M_refused (((-2) - x1).toNatClampNeg)) + 1)) hg _ _ _ _ hP hS dX11_refuse_14

/-! SpokenClockModel.worse()I -/
abbrev ws_X11_worse (cI cJ cZ cA : ClassId) (q_M q_M_refused : Nat) (u_M_now : Value) (u_M_images : Value) (u_M_kept : Value) (u_M_text : Value) (u_M_size : Value) (u_M_sign : Value) (u_M_manyAbove : Value) (u_M_manyBelow : Value) (u_M_above : Value) (u_M_below : Value) (u_M_at : Value) (u_M_begin : Value) (u_M_kind : Value) (u_M_value : Value) (u_M_read : Value) (u_M_acts : Value) (u_M_act : Value) (u_M_waits : Value) (u_M_wait : Value) (u_M_held : Value) (u_M_place : Value) (u_M_heap : Value) (u_M_clocks : Value) (u_M_counts : Value) (u_M_talking : Value) (u_M_most : Value) (u_M_hasA : Value) (u_M_hasB : Value) (u_M_talks : Value) (u_M_big : Value) (a_M_refused : Nat → Int32) : va_W := [(q_M, .inr (11, [u_M_now, u_M_images, u_M_kept, u_M_text, u_M_size, u_M_sign, u_M_manyAbove, u_M_manyBelow, u_M_above, u_M_below, .ref q_M_refused, u_M_at, u_M_begin, u_M_kind, u_M_value, u_M_read, u_M_acts, u_M_act, u_M_waits, u_M_wait, u_M_held, u_M_place, u_M_heap, u_M_clocks, u_M_counts, u_M_talking, u_M_most, u_M_hasA, u_M_hasB, u_M_talks, u_M_big])), (q_M_refused, .inl (cI, 3, .inl a_M_refused))]
abbrev rm_X11_worse : Room := { frames := 0, cells := 0, slots := 0, locals := 0 }
def g_X11_worse (a_M_refused : Nat → Int32) : Option (Int32 × (Nat → Int32)) :=
  some ((-10000), upd a_M_refused 0 ((a_M_refused 0) + 1))
theorem hd_X11_worse : yX11_worse.cls = RX11 ∧ yX11_worse.cls ≠ "java/lang/invoke/MethodHandle" ∧ yX11_worse.cls ≠ "java/lang/invoke/VarHandle" ∧ (parseMethodDescriptor yX11_worse.desc).map (fun d => d.parameters.length) = some 0 := by decide +kernel
set_option maxHeartbeats 4000000 in
set_option maxRecDepth 100000 in
theorem c_X11_worse (l : Launch) (D : va_G) (cI cJ cZ cA : ClassId) (ga : Nat → Nat) (q_M q_M_refused : Nat) (u_M_now : Value) (u_M_images : Value) (u_M_kept : Value) (u_M_text : Value) (u_M_size : Value) (u_M_sign : Value) (u_M_manyAbove : Value) (u_M_manyBelow : Value) (u_M_above : Value) (u_M_below : Value) (u_M_at : Value) (u_M_begin : Value) (u_M_kind : Value) (u_M_value : Value) (u_M_read : Value) (u_M_acts : Value) (u_M_act : Value) (u_M_waits : Value) (u_M_wait : Value) (u_M_held : Value) (u_M_place : Value) (u_M_heap : Value) (u_M_clocks : Value) (u_M_counts : Value) (u_M_talking : Value) (u_M_most : Value) (u_M_hasA : Value) (u_M_hasB : Value) (u_M_talks : Value) (u_M_big : Value) (a_M_refused : Nat → Int32) (o : Int32 × (Nat → Int32)) (hg : g_X11_worse a_M_refused = some o) : zM l yX11_worse (Cond.code yX11_worse cX11_worse 1 (some .int) :: wsL_law) rm_X11_worse D (zTy cI cJ cZ cA) ga [.ref q_M] (ws_X11_worse cI cJ cZ cA q_M q_M_refused u_M_now u_M_images u_M_kept u_M_text u_M_size u_M_sign u_M_manyAbove u_M_manyBelow u_M_above u_M_below u_M_at u_M_begin u_M_kind u_M_value u_M_read u_M_acts u_M_act u_M_waits u_M_wait u_M_held u_M_place u_M_heap u_M_clocks u_M_counts u_M_talking u_M_most u_M_hasA u_M_hasB u_M_talks u_M_big a_M_refused) (ws_X11_worse cI cJ cZ cA q_M q_M_refused u_M_now u_M_images u_M_kept u_M_text u_M_size u_M_sign u_M_manyAbove u_M_manyBelow u_M_above u_M_below u_M_at u_M_begin u_M_kind u_M_value u_M_read u_M_acts u_M_act u_M_waits u_M_wait u_M_held u_M_place u_M_heap u_M_clocks u_M_counts u_M_talking u_M_most u_M_hasA u_M_hasB u_M_talks u_M_big o.2) (some (.int o.1)) := by
  refine zenterI (own := RX11) (by decide) rfl rfl (Nat.le_of_ble_eq_true rfl) ?_
  intro p e s m args below meth c A ls Q S hA hK hG hl hP hD hS hret0
  have hx := S.1
  have hb := S.2.1
  have ht : ∀ w, w ∈ wsL_law → w.before args s = true := fun w h => S.2.2.2.2 w (List.mem_cons_of_mem _ h)
  have hret : ∀ (r9 : Int32) (a_M_refused : Nat → Int32), (some (r9, a_M_refused) : Option (Int32 × (Nat → Int32))) = some o → ∀ (H : Heap) (locs : List Loc) (pc : Nat) (ls : Array Slot), va_P D vwCl (ws_X11_worse cI cJ cZ cA q_M q_M_refused u_M_now u_M_images u_M_kept u_M_text u_M_size u_M_sign u_M_manyAbove u_M_manyBelow u_M_above u_M_below u_M_at u_M_begin u_M_kind u_M_value u_M_read u_M_acts u_M_act u_M_waits u_M_wait u_M_held u_M_place u_M_heap u_M_clocks u_M_counts u_M_talking u_M_most u_M_hasA u_M_hasB u_M_talks u_M_big a_M_refused) H → va_S A s.heap H locs → decode cX11_worse pc = .ok (.ireturn, 1) → W p l e rm_X11_worse s m args below meth c H locs 0 0 Q (F0 m pc ls [.int r9]) := by
    intro r9 a_M_refused he; cases he; exact hret0
  have hl : lv_has ls 1 [(0, .ref q_M)] := hl
  refine lv_aload_n hx hb dX11_worse_0 rfl (lv_at hl 0 rfl) ?_
  refine zget (C := RX11) (T := TX11) (N := 31) S hK hP 0 rfl rfl 10 (Nat.le_of_ble_eq_true rfl) zf_11 zw_156 rfl dX11_worse_1 ?_
  refine lv_iconst (v := 0) hx hb dX11_worse_4 (by decide) ?_
  refine lv_dup2_11 hx hb dX11_worse_5 rfl rfl ?_
  refine ziald hx hb hK hP 1 0 rfl rfl (j := 0) (zin (by decide)) (by decide) dX11_worse_6 ?_
  refine lv_iconst (v := 1) hx hb dX11_worse_7 (by decide) ?_
  refine lv_iadd hx hb dX11_worse_8 ?_
  refine ziast hx hb hK hP hD hS 1 0 rfl rfl (j := 0) (zin (by decide)) (by decide) dX11_worse_9 (w2 := (ws_X11_worse cI cJ cZ cA q_M q_M_refused u_M_now u_M_images u_M_kept u_M_text u_M_size u_M_sign u_M_manyAbove u_M_manyBelow u_M_above u_M_below u_M_at u_M_begin u_M_kind u_M_value u_M_read u_M_acts u_M_act u_M_waits u_M_wait u_M_held u_M_place u_M_heap u_M_clocks u_M_counts u_M_talking u_M_most u_M_hasA u_M_hasB u_M_talks u_M_big (upd a_M_refused 0 ((a_M_refused 0) + 1)))) rfl (fun H locs hP hD hS => ?_)
  refine lv_sipush (v := (-10000)) hx hb dX11_worse_10 (by decide) ?_
  exact hret (-10000) (upd a_M_refused 0 ((a_M_refused 0) + 1)) hg _ _ _ _ hP hS dX11_worse_13

/-! SpokenClockModel.isPut(II)Z -/
abbrev ws_X11_isPut (cI cJ cZ cA : ClassId) : va_W := []
abbrev rm_X11_isPut : Room := { frames := 1, cells := 0, slots := 0, locals := 25 }
def g_X11_isPut (x0 : Int32) (x1 : Int32) : Option (Int32) :=
  if x0 = 0 then (
    (g_X11_in x1.toInt64 (1 : Int64) (4 : Int64)).bind fun v5 =>
    if v5 = 0 ∨ v5 = 1 then
      some (v5)
    else none
  ) else (
    if x0 = 1 then (
      (g_X11_in x1.toInt64 (0 : Int64) (1 : Int64)).bind fun v3 =>
      if v3 = 0 ∨ v3 = 1 then
        some (v3)
      else none
    ) else (
      if x0 = 2 then (
        (g_X11_in x1.toInt64 (0 : Int64) (240 : Int64)).bind fun v1 =>
        if v1 = 0 then (
          some (0)
        ) else (
          some (1)
        )
      ) else (
        some (0)
      )
    )
  )
theorem hd_X11_isPut : yX11_isPut.cls ≠ "java/lang/invoke/MethodHandle" ∧ yX11_isPut.cls ≠ "java/lang/invoke/VarHandle" ∧ (parseMethodDescriptor yX11_isPut.desc).map (fun d => d.parameters.length) = some 2 := by decide +kernel
set_option maxHeartbeats 4000000 in
set_option maxRecDepth 100000 in
theorem c_X11_isPut (l : Launch) (D : va_G) (cI cJ cZ cA : ClassId) (ga : Nat → Nat) (x0 : Int32) (x1 : Int32) (o : Int32) (hg : g_X11_isPut x0 x1 = some o) : zM l yX11_isPut (Cond.code yX11_isPut cX11_isPut 2 (some .boolean) :: wsL_law) rm_X11_isPut D (zTy cI cJ cZ cA) ga [.int x0, .int x1] (ws_X11_isPut cI cJ cZ cA) (ws_X11_isPut cI cJ cZ cA) (some (.int o)) := by
  refine zenterN (own := RX11) (by decide) rfl rfl (Nat.le_of_ble_eq_true rfl) ?_
  intro p e s m args below meth c A ls Q S hA hK hG hl hP hD hS hret0
  have hx := S.1
  have hb := S.2.1
  have ht : ∀ w, w ∈ wsL_law → w.before args s = true := fun w h => S.2.2.2.2 w (List.mem_cons_of_mem _ h)
  have hret : ∀ (r9 : Int32), (some (r9) : Option (Int32)) = some o → narrow .boolean (.int r9) = .int r9 → ∀ (H : Heap) (locs : List Loc) (pc : Nat) (ls : Array Slot), va_P D vwCl (ws_X11_isPut cI cJ cZ cA) H → va_S A s.heap H locs → decode cX11_isPut pc = .ok (.ireturn, 1) → W p l e rm_X11_isPut s m args below meth c H locs 0 0 Q (F0 m pc ls [.int r9]) := by
    intro r9 he; cases he; exact hret0
  have hl : lv_has ls 2 [(0, .int x0), (1, .int x1)] := hl
  refine lv_iload_n hx hb dX11_isPut_0 rfl (lv_at hl 0 rfl) ?_
  refine lv_if_ne (tgt := 16) hx hb dX11_isPut_1 (by decide) (fun h1 => ?_) (fun h1 => ?_)
  · have hg := zn hg h1
    refine lv_iload_n hx hb dX11_isPut_16 rfl (lv_at hl 0 rfl) ?_
    refine lv_iconst (v := 1) hx hb dX11_isPut_17 (by decide) ?_
    refine lv_icmp_ne (tgt := 31) hx hb dX11_isPut_18 (by decide) (fun h18 => ?_) (fun h18 => ?_)
    · have hg := zn hg h18
      refine lv_iload_n hx hb dX11_isPut_31 rfl (lv_at hl 0 rfl) ?_
      refine lv_iconst (v := 2) hx hb dX11_isPut_32 (by decide) ?_
      refine lv_icmp_ne (tgt := 52) hx hb dX11_isPut_33 (by decide) (fun h33 => ?_) (fun h33 => ?_)
      · have hg := zn hg h33
        refine lv_iconst (v := 0) hx hb dX11_isPut_52 (by decide) ?_
        exact hret 0 hg (zb01 (Or.inl rfl)) _ _ _ _ hP hS dX11_isPut_53
      · have hg := zp hg h33
        refine lv_iload_n hx hb dX11_isPut_36 rfl (lv_at hl 1 rfl) ?_
        refine lv_i2l hx hb dX11_isPut_37 rfl ?_
        refine lv_lconst (v := 0) hx hb dX11_isPut_38 (by decide) ?_
        refine lv_ldc2 (v := 240) hx hb S.2.2.2.1 (ht _ zw_219) dX11_isPut_39 ?_
        obtain ⟨v1, hc2, hg⟩ := zbd hg
        refine zcallS (rest := []) S (c_X11_in l D cI cJ cZ cA ga x1.toInt64 (0 : Int64) (240 : Int64) v1 hc2) (zgS zw_220 zw_221 zw_5 zw_222) rfl hd_X11_in ⟨rfl, rfl⟩ ⟨Nat.le_of_ble_eq_true rfl, Nat.le_of_ble_eq_true rfl⟩ rfl hl.1 rfl (Nat.le_of_ble_eq_true rfl) dX11_isPut_42 hP hD hS hA hK hG (isC := []) rfl rfl rfl (w2 := (ws_X11_isPut cI cJ cZ cA)) rfl (st1 := [.int v1]) rfl (fun H locs hP hD hS => ?_)
        refine lv_if_eq (tgt := 52) hx hb dX11_isPut_45 (by decide) (fun h45 => ?_) (fun h45 => ?_)
        · have hg := zp hg h45
          refine lv_iconst (v := 0) hx hb dX11_isPut_52 (by decide) ?_
          exact hret 0 hg (zb01 (Or.inl rfl)) _ _ _ _ hP hS dX11_isPut_53
        · have hg := zn hg h45
          refine lv_iconst (v := 1) hx hb dX11_isPut_48 (by decide) ?_
          refine lv_goto (tgt := 53) hx hb dX11_isPut_49 (by decide) ?_
          exact hret 1 hg (zb01 (Or.inr rfl)) _ _ _ _ hP hS dX11_isPut_53
    · have hg := zp hg h18
      refine lv_iload_n hx hb dX11_isPut_21 rfl (lv_at hl 1 rfl) ?_
      refine lv_i2l hx hb dX11_isPut_22 rfl ?_
      refine lv_lconst (v := 0) hx hb dX11_isPut_23 (by decide) ?_
      refine lv_lconst (v := 1) hx hb dX11_isPut_24 (by decide) ?_
      obtain ⟨v3, hc4, hg⟩ := zbd hg
      refine zcallS (rest := []) S (c_X11_in l D cI cJ cZ cA ga x1.toInt64 (0 : Int64) (1 : Int64) v3 hc4) (zgS zw_220 zw_221 zw_5 zw_222) rfl hd_X11_in ⟨rfl, rfl⟩ ⟨Nat.le_of_ble_eq_true rfl, Nat.le_of_ble_eq_true rfl⟩ rfl hl.1 rfl (Nat.le_of_ble_eq_true rfl) dX11_isPut_25 hP hD hS hA hK hG (isC := []) rfl rfl rfl (w2 := (ws_X11_isPut cI cJ cZ cA)) rfl (st1 := [.int v3]) rfl (fun H locs hP hD hS => ?_)
      refine lv_goto (tgt := 53) hx hb dX11_isPut_28 (by decide) ?_
      obtain ⟨hz01, hg⟩ := zck2 hg
      exact hret v3 hg (zb01 hz01) _ _ _ _ hP hS dX11_isPut_53
  · have hg := zp hg h1
    refine lv_iload_n hx hb dX11_isPut_4 rfl (lv_at hl 1 rfl) ?_
    refine lv_i2l hx hb dX11_isPut_5 rfl ?_
    refine lv_lconst (v := 1) hx hb dX11_isPut_6 (by decide) ?_
    refine lv_ldc2 (v := 4) hx hb S.2.2.2.1 (ht _ zw_218) dX11_isPut_7 ?_
    obtain ⟨v5, hc6, hg⟩ := zbd hg
    refine zcallS (rest := []) S (c_X11_in l D cI cJ cZ cA ga x1.toInt64 (1 : Int64) (4 : Int64) v5 hc6) (zgS zw_220 zw_221 zw_5 zw_222) rfl hd_X11_in ⟨rfl, rfl⟩ ⟨Nat.le_of_ble_eq_true rfl, Nat.le_of_ble_eq_true rfl⟩ rfl hl.1 rfl (Nat.le_of_ble_eq_true rfl) dX11_isPut_10 hP hD hS hA hK hG (isC := []) rfl rfl rfl (w2 := (ws_X11_isPut cI cJ cZ cA)) rfl (st1 := [.int v5]) rfl (fun H locs hP hD hS => ?_)
    refine lv_goto (tgt := 53) hx hb dX11_isPut_13 (by decide) ?_
    obtain ⟨hz01, hg⟩ := zck2 hg
    exact hret v5 hg (zb01 hz01) _ _ _ _ hP hS dX11_isPut_53

/-! SpokenClockModel.put(II)I -/
abbrev ws_X11_put (cI cJ cZ cA : ClassId) (q_M q_M_now q_M_refused : Nat) (u_M_images : Value) (u_M_kept : Value) (u_M_text : Value) (u_M_size : Value) (u_M_sign : Value) (u_M_manyAbove : Value) (u_M_manyBelow : Value) (u_M_above : Value) (u_M_below : Value) (u_M_at : Value) (u_M_begin : Value) (u_M_kind : Value) (u_M_value : Value) (u_M_read : Value) (u_M_acts : Value) (u_M_act : Value) (u_M_waits : Value) (u_M_wait : Value) (u_M_held : Value) (u_M_place : Value) (u_M_heap : Value) (u_M_clocks : Value) (u_M_counts : Value) (u_M_talking : Value) (u_M_most : Value) (u_M_hasA : Value) (u_M_hasB : Value) (u_M_talks : Value) (u_M_big : Value) (a_M_now : Nat → Int32) (a_M_refused : Nat → Int32) : va_W := [(q_M, .inr (11, [.ref q_M_now, u_M_images, u_M_kept, u_M_text, u_M_size, u_M_sign, u_M_manyAbove, u_M_manyBelow, u_M_above, u_M_below, .ref q_M_refused, u_M_at, u_M_begin, u_M_kind, u_M_value, u_M_read, u_M_acts, u_M_act, u_M_waits, u_M_wait, u_M_held, u_M_place, u_M_heap, u_M_clocks, u_M_counts, u_M_talking, u_M_most, u_M_hasA, u_M_hasB, u_M_talks, u_M_big])), (q_M_now, .inl (cI, 155, .inl a_M_now)), (q_M_refused, .inl (cI, 3, .inl a_M_refused))]
abbrev rm_X11_put : Room := { frames := 2, cells := 0, slots := 0, locals := 46 }
def g_X11_put (x1 : Int32) (x2 : Int32) (a_M_now : Nat → Int32) (a_M_refused : Nat → Int32) : Option (Int32 × (Nat → Int32) × (Nat → Int32)) :=
  (g_X11_isPut x1 x2).bind fun v1 =>
  if v1 = 0 then (
    (g_X11_refuse (-2) a_M_refused).bind fun v5 =>
    some (v5.1, a_M_now, v5.2)
  ) else (
    if (0 + x1) < 0 ∨ 155 ≤ (0 + x1).toNatClampNeg then none else
    if (0 + x1) < 0 ∨ 155 ≤ (0 + x1).toNatClampNeg then none else
    some (a_M_now ((0 + x1).toNatClampNeg), upd a_M_now ((0 + x1).toNatClampNeg) x2, a_M_refused)
  )
theorem hd_X11_put : yX11_put.cls = RX11 ∧ yX11_put.cls ≠ "java/lang/invoke/MethodHandle" ∧ yX11_put.cls ≠ "java/lang/invoke/VarHandle" ∧ (parseMethodDescriptor yX11_put.desc).map (fun d => d.parameters.length) = some 2 := by decide +kernel
set_option maxHeartbeats 4000000 in
set_option maxRecDepth 100000 in
theorem c_X11_put (l : Launch) (D : va_G) (cI cJ cZ cA : ClassId) (ga : Nat → Nat) (q_M q_M_now q_M_refused : Nat) (u_M_images : Value) (u_M_kept : Value) (u_M_text : Value) (u_M_size : Value) (u_M_sign : Value) (u_M_manyAbove : Value) (u_M_manyBelow : Value) (u_M_above : Value) (u_M_below : Value) (u_M_at : Value) (u_M_begin : Value) (u_M_kind : Value) (u_M_value : Value) (u_M_read : Value) (u_M_acts : Value) (u_M_act : Value) (u_M_waits : Value) (u_M_wait : Value) (u_M_held : Value) (u_M_place : Value) (u_M_heap : Value) (u_M_clocks : Value) (u_M_counts : Value) (u_M_talking : Value) (u_M_most : Value) (u_M_hasA : Value) (u_M_hasB : Value) (u_M_talks : Value) (u_M_big : Value) (a_M_now : Nat → Int32) (a_M_refused : Nat → Int32) (x1 : Int32) (x2 : Int32) (o : Int32 × (Nat → Int32) × (Nat → Int32)) (hg : g_X11_put x1 x2 a_M_now a_M_refused = some o) : zM l yX11_put (Cond.code yX11_put cX11_put 4 (some .int) :: wsL_law) rm_X11_put D (zTy cI cJ cZ cA) ga [.ref q_M, .int x1, .int x2] (ws_X11_put cI cJ cZ cA q_M q_M_now q_M_refused u_M_images u_M_kept u_M_text u_M_size u_M_sign u_M_manyAbove u_M_manyBelow u_M_above u_M_below u_M_at u_M_begin u_M_kind u_M_value u_M_read u_M_acts u_M_act u_M_waits u_M_wait u_M_held u_M_place u_M_heap u_M_clocks u_M_counts u_M_talking u_M_most u_M_hasA u_M_hasB u_M_talks u_M_big a_M_now a_M_refused) (ws_X11_put cI cJ cZ cA q_M q_M_now q_M_refused u_M_images u_M_kept u_M_text u_M_size u_M_sign u_M_manyAbove u_M_manyBelow u_M_above u_M_below u_M_at u_M_begin u_M_kind u_M_value u_M_read u_M_acts u_M_act u_M_waits u_M_wait u_M_held u_M_place u_M_heap u_M_clocks u_M_counts u_M_talking u_M_most u_M_hasA u_M_hasB u_M_talks u_M_big o.2.1 o.2.2) (some (.int o.1)) := by
  refine zenterI (own := RX11) (by decide) rfl rfl (Nat.le_of_ble_eq_true rfl) ?_
  intro p e s m args below meth c A ls Q S hA hK hG hl hP hD hS hret0
  have hx := S.1
  have hb := S.2.1
  have ht : ∀ w, w ∈ wsL_law → w.before args s = true := fun w h => S.2.2.2.2 w (List.mem_cons_of_mem _ h)
  have hret : ∀ (r9 : Int32) (a_M_now : Nat → Int32) (a_M_refused : Nat → Int32), (some (r9, a_M_now, a_M_refused) : Option (Int32 × (Nat → Int32) × (Nat → Int32))) = some o → ∀ (H : Heap) (locs : List Loc) (pc : Nat) (ls : Array Slot), va_P D vwCl (ws_X11_put cI cJ cZ cA q_M q_M_now q_M_refused u_M_images u_M_kept u_M_text u_M_size u_M_sign u_M_manyAbove u_M_manyBelow u_M_above u_M_below u_M_at u_M_begin u_M_kind u_M_value u_M_read u_M_acts u_M_act u_M_waits u_M_wait u_M_held u_M_place u_M_heap u_M_clocks u_M_counts u_M_talking u_M_most u_M_hasA u_M_hasB u_M_talks u_M_big a_M_now a_M_refused) H → va_S A s.heap H locs → decode cX11_put pc = .ok (.ireturn, 1) → W p l e rm_X11_put s m args below meth c H locs 0 0 Q (F0 m pc ls [.int r9]) := by
    intro r9 a_M_now a_M_refused he; cases he; exact hret0
  have hl : lv_has ls 4 [(0, .ref q_M), (1, .int x1), (2, .int x2)] := hl
  refine lv_iload_n hx hb dX11_put_0 rfl (lv_at hl 1 rfl) ?_
  refine lv_iload_n hx hb dX11_put_1 rfl (lv_at hl 2 rfl) ?_
  obtain ⟨v1, hc2, hg⟩ := zbd hg
  refine zcallS (rest := []) S (c_X11_isPut l D cI cJ cZ cA ga x1 x2 v1 hc2) (zgS zw_215 zw_216 zw_5 zw_217) rfl hd_X11_isPut ⟨rfl, rfl⟩ ⟨Nat.le_of_ble_eq_true rfl, Nat.le_of_ble_eq_true rfl⟩ rfl hl.1 rfl (Nat.le_of_ble_eq_true rfl) dX11_put_2 hP hD hS hA hK hG (isC := []) rfl rfl rfl (w2 := (ws_X11_put cI cJ cZ cA q_M q_M_now q_M_refused u_M_images u_M_kept u_M_text u_M_size u_M_sign u_M_manyAbove u_M_manyBelow u_M_above u_M_below u_M_at u_M_begin u_M_kind u_M_value u_M_read u_M_acts u_M_act u_M_waits u_M_wait u_M_held u_M_place u_M_heap u_M_clocks u_M_counts u_M_talking u_M_most u_M_hasA u_M_hasB u_M_talks u_M_big a_M_now a_M_refused)) rfl (st1 := [.int v1]) rfl (fun H locs hP hD hS => ?_)
  refine lv_if_ne (tgt := 15) hx hb dX11_put_5 (by decide) (fun h5 => ?_) (fun h5 => ?_)
  · have hg := zn hg h5
    refine lv_aload_n hx hb dX11_put_15 rfl (lv_at hl 0 rfl) ?_
    refine zget (C := RX11) (T := TX11) (N := 31) S hK hP 0 rfl rfl 0 (Nat.le_of_ble_eq_true rfl) zf_11 zw_149 rfl dX11_put_16 ?_
    refine lv_iconst (v := 0) hx hb dX11_put_19 (by decide) ?_
    refine lv_iload_n hx hb dX11_put_20 rfl (lv_at hl 1 rfl) ?_
    refine lv_iadd hx hb dX11_put_21 ?_
    obtain ⟨h3, hg⟩ := zck hg
    refine ziald hx hb hK hP 1 0 rfl rfl (j := ((0 + x1).toNatClampNeg)) h3 rfl dX11_put_22 ?_
    refine lv_istore_n (lv' := [(3, .int (a_M_now ((0 + x1).toNatClampNeg))), (0, .ref q_M), (1, .int x1), (2, .int x2)]) hx hb dX11_put_23 rfl hl (by decide) rfl (fun ls hl => ?_)
    refine lv_aload_n hx hb dX11_put_24 rfl (lv_at hl 1 rfl) ?_
    refine zget (C := RX11) (T := TX11) (N := 31) S hK hP 0 rfl rfl 0 (Nat.le_of_ble_eq_true rfl) zf_11 zw_149 rfl dX11_put_25 ?_
    refine lv_iconst (v := 0) hx hb dX11_put_28 (by decide) ?_
    refine lv_iload_n hx hb dX11_put_29 rfl (lv_at hl 2 rfl) ?_
    refine lv_iadd hx hb dX11_put_30 ?_
    refine lv_iload_n hx hb dX11_put_31 rfl (lv_at hl 3 rfl) ?_
    obtain ⟨h4, hg⟩ := zck hg
    refine ziast hx hb hK hP hD hS 1 0 rfl rfl (j := ((0 + x1).toNatClampNeg)) h4 rfl dX11_put_32 (w2 := (ws_X11_put cI cJ cZ cA q_M q_M_now q_M_refused u_M_images u_M_kept u_M_text u_M_size u_M_sign u_M_manyAbove u_M_manyBelow u_M_above u_M_below u_M_at u_M_begin u_M_kind u_M_value u_M_read u_M_acts u_M_act u_M_waits u_M_wait u_M_held u_M_place u_M_heap u_M_clocks u_M_counts u_M_talking u_M_most u_M_hasA u_M_hasB u_M_talks u_M_big (upd a_M_now ((0 + x1).toNatClampNeg) x2) a_M_refused)) rfl (fun H locs hP hD hS => ?_)
    refine lv_iload_n hx hb dX11_put_33 rfl (lv_at hl 0 rfl) ?_
    exact hret (a_M_now ((0 + x1).toNatClampNeg)) (upd a_M_now ((0 + x1).toNatClampNeg) x2) a_M_refused hg _ _ _ _ hP hS dX11_put_34
  · have hg := zp hg h5
    refine lv_aload_n hx hb dX11_put_8 rfl (lv_at hl 0 rfl) ?_
    refine lv_bipush (v := (-2)) hx hb dX11_put_9 (by decide) ?_
    obtain ⟨v5, hc6, hg⟩ := zbd hg
    refine zcallV (rest := []) S (c_X11_refuse l D cI cJ cZ cA ga q_M q_M_refused (.ref q_M_now) u_M_images u_M_kept u_M_text u_M_size u_M_sign u_M_manyAbove u_M_manyBelow u_M_above u_M_below u_M_at u_M_begin u_M_kind u_M_value u_M_read u_M_acts u_M_act u_M_waits u_M_wait u_M_held u_M_place u_M_heap u_M_clocks u_M_counts u_M_talking u_M_most u_M_hasA u_M_hasB u_M_talks u_M_big a_M_refused (-2) v5 hc6) (zgV zw_223 zw_224 zw_225 zw_5 zw_226) rfl hd_X11_refuse ⟨rfl, rfl⟩ ⟨Nat.le_of_ble_eq_true rfl, Nat.le_of_ble_eq_true rfl⟩ 0 11 rfl rfl rfl hl.1 rfl (Nat.le_of_ble_eq_true rfl) dX11_put_11 hP hD hS hA hK hG (isC := [0, 2]) rfl rfl rfl (w2 := (ws_X11_put cI cJ cZ cA q_M q_M_now q_M_refused u_M_images u_M_kept u_M_text u_M_size u_M_sign u_M_manyAbove u_M_manyBelow u_M_above u_M_below u_M_at u_M_begin u_M_kind u_M_value u_M_read u_M_acts u_M_act u_M_waits u_M_wait u_M_held u_M_place u_M_heap u_M_clocks u_M_counts u_M_talking u_M_most u_M_hasA u_M_hasB u_M_talks u_M_big a_M_now v5.2)) rfl (st1 := [.int v5.1]) rfl (fun H locs hP hD hS => ?_)
    exact hret v5.1 a_M_now v5.2 hg _ _ _ _ hP hS dX11_put_14

/-! SpokenClockModel.person(II)I -/
abbrev ws_X11_person (cI cJ cZ cA : ClassId) (q_M q_M_refused q_M_now : Nat) (u_M_images : Value) (u_M_kept : Value) (u_M_text : Value) (u_M_size : Value) (u_M_sign : Value) (u_M_manyAbove : Value) (u_M_manyBelow : Value) (u_M_above : Value) (u_M_below : Value) (u_M_at : Value) (u_M_begin : Value) (u_M_kind : Value) (u_M_value : Value) (u_M_read : Value) (u_M_acts : Value) (u_M_act : Value) (u_M_waits : Value) (u_M_wait : Value) (u_M_held : Value) (u_M_place : Value) (u_M_heap : Value) (u_M_clocks : Value) (u_M_counts : Value) (u_M_talking : Value) (u_M_most : Value) (u_M_hasA : Value) (u_M_hasB : Value) (u_M_talks : Value) (u_M_big : Value) (a_M_refused : Nat → Int32) (a_M_now : Nat → Int32) : va_W := [(q_M, .inr (11, [.ref q_M_now, u_M_images, u_M_kept, u_M_text, u_M_size, u_M_sign, u_M_manyAbove, u_M_manyBelow, u_M_above, u_M_below, .ref q_M_refused, u_M_at, u_M_begin, u_M_kind, u_M_value, u_M_read, u_M_acts, u_M_act, u_M_waits, u_M_wait, u_M_held, u_M_place, u_M_heap, u_M_clocks, u_M_counts, u_M_talking, u_M_most, u_M_hasA, u_M_hasB, u_M_talks, u_M_big])), (q_M_refused, .inl (cI, 3, .inl a_M_refused)), (q_M_now, .inl (cI, 155, .inl a_M_now))]
abbrev rm_X11_person : Room := { frames := 1, cells := 0, slots := 0, locals := 25 }
def g_X11_person_22 (x1 : Int32) (x2 : Int32) (a_M_refused : Nat → Int32) (a_M_now : Nat → Int32) : Option (Int32 × (Nat → Int32) × (Nat → Int32)) :=
  (g_X11_refuse (-2) a_M_refused).bind fun v3 =>
  some (v3.1, v3.2, a_M_now)
def g_X11_person (x1 : Int32) (x2 : Int32) (a_M_refused : Nat → Int32) (a_M_now : Nat → Int32) : Option (Int32 × (Nat → Int32) × (Nat → Int32)) :=
  (g_X11_in x1.toInt64 (0 : Int64) (5 : Int64)).bind fun v1 =>
  if v1 = 0 then (
    g_X11_person_22 x1 x2 a_M_refused a_M_now
  ) else (
    (g_X11_in x2.toInt64 (0 : Int64) (1 : Int64)).bind fun v5 =>
    if v5 = 0 then (
      g_X11_person_22 x1 x2 a_M_refused a_M_now
    ) else (
      if (a_M_now 3) = 5 then (
        (g_X11_refuse (-4) a_M_refused).bind fun v9 =>
        some (v9.1, v9.2, a_M_now)
      ) else (
        if (13 + (a_M_now 3)) < 0 ∨ 155 ≤ (13 + (a_M_now 3)).toNatClampNeg then none else
        if (18 + (a_M_now 3)) < 0 ∨ 155 ≤ (18 + (a_M_now 3)).toNatClampNeg then none else
        some (a_M_now 3, a_M_refused, upd (upd (upd a_M_now ((13 + (a_M_now 3)).toNatClampNeg) x1) ((18 + (a_M_now 3)).toNatClampNeg) x2) 3 (((upd (upd a_M_now ((13 + (a_M_now 3)).toNatClampNeg) x1) ((18 + (a_M_now 3)).toNatClampNeg) x2) 3) + 1))
      )
    )
  )
theorem hd_X11_person : yX11_person.cls = RX11 ∧ yX11_person.cls ≠ "java/lang/invoke/MethodHandle" ∧ yX11_person.cls ≠ "java/lang/invoke/VarHandle" ∧ (parseMethodDescriptor yX11_person.desc).map (fun d => d.parameters.length) = some 2 := by decide +kernel
set_option maxHeartbeats 4000000 in
set_option maxRecDepth 100000 in
theorem c_X11_person (l : Launch) (D : va_G) (cI cJ cZ cA : ClassId) (ga : Nat → Nat) (q_M q_M_refused q_M_now : Nat) (u_M_images : Value) (u_M_kept : Value) (u_M_text : Value) (u_M_size : Value) (u_M_sign : Value) (u_M_manyAbove : Value) (u_M_manyBelow : Value) (u_M_above : Value) (u_M_below : Value) (u_M_at : Value) (u_M_begin : Value) (u_M_kind : Value) (u_M_value : Value) (u_M_read : Value) (u_M_acts : Value) (u_M_act : Value) (u_M_waits : Value) (u_M_wait : Value) (u_M_held : Value) (u_M_place : Value) (u_M_heap : Value) (u_M_clocks : Value) (u_M_counts : Value) (u_M_talking : Value) (u_M_most : Value) (u_M_hasA : Value) (u_M_hasB : Value) (u_M_talks : Value) (u_M_big : Value) (a_M_refused : Nat → Int32) (a_M_now : Nat → Int32) (x1 : Int32) (x2 : Int32) (o : Int32 × (Nat → Int32) × (Nat → Int32)) (hg : g_X11_person x1 x2 a_M_refused a_M_now = some o) : zM l yX11_person (Cond.code yX11_person cX11_person 4 (some .int) :: wsL_law) rm_X11_person D (zTy cI cJ cZ cA) ga [.ref q_M, .int x1, .int x2] (ws_X11_person cI cJ cZ cA q_M q_M_refused q_M_now u_M_images u_M_kept u_M_text u_M_size u_M_sign u_M_manyAbove u_M_manyBelow u_M_above u_M_below u_M_at u_M_begin u_M_kind u_M_value u_M_read u_M_acts u_M_act u_M_waits u_M_wait u_M_held u_M_place u_M_heap u_M_clocks u_M_counts u_M_talking u_M_most u_M_hasA u_M_hasB u_M_talks u_M_big a_M_refused a_M_now) (ws_X11_person cI cJ cZ cA q_M q_M_refused q_M_now u_M_images u_M_kept u_M_text u_M_size u_M_sign u_M_manyAbove u_M_manyBelow u_M_above u_M_below u_M_at u_M_begin u_M_kind u_M_value u_M_read u_M_acts u_M_act u_M_waits u_M_wait u_M_held u_M_place u_M_heap u_M_clocks u_M_counts u_M_talking u_M_most u_M_hasA u_M_hasB u_M_talks u_M_big o.2.1 o.2.2) (some (.int o.1)) := by
  refine zenterI (own := RX11) (by decide) rfl rfl (Nat.le_of_ble_eq_true rfl) ?_
  intro p e s m args below meth c A ls Q S hA hK hG hl hP hD hS hret0
  have hx := S.1
  have hb := S.2.1
  have ht : ∀ w, w ∈ wsL_law → w.before args s = true := fun w h => S.2.2.2.2 w (List.mem_cons_of_mem _ h)
  have hret : ∀ (r9 : Int32) (a_M_refused : Nat → Int32) (a_M_now : Nat → Int32), (some (r9, a_M_refused, a_M_now) : Option (Int32 × (Nat → Int32) × (Nat → Int32))) = some o → ∀ (H : Heap) (locs : List Loc) (pc : Nat) (ls : Array Slot), va_P D vwCl (ws_X11_person cI cJ cZ cA q_M q_M_refused q_M_now u_M_images u_M_kept u_M_text u_M_size u_M_sign u_M_manyAbove u_M_manyBelow u_M_above u_M_below u_M_at u_M_begin u_M_kind u_M_value u_M_read u_M_acts u_M_act u_M_waits u_M_wait u_M_held u_M_place u_M_heap u_M_clocks u_M_counts u_M_talking u_M_most u_M_hasA u_M_hasB u_M_talks u_M_big a_M_refused a_M_now) H → va_S A s.heap H locs → decode cX11_person pc = .ok (.ireturn, 1) → W p l e rm_X11_person s m args below meth c H locs 0 0 Q (F0 m pc ls [.int r9]) := by
    intro r9 a_M_refused a_M_now he; cases he; exact hret0
  have hl : lv_has ls 4 [(0, .ref q_M), (1, .int x1), (2, .int x2)] := hl
  have B22 : ∀ (a_M_refused : Nat → Int32) (a_M_now : Nat → Int32) (H : Heap) (locs : List Loc) (ls : Array Slot) (hl : lv_has ls 4 [(0, .ref q_M)]) (hP : va_P D vwCl (ws_X11_person cI cJ cZ cA q_M q_M_refused q_M_now u_M_images u_M_kept u_M_text u_M_size u_M_sign u_M_manyAbove u_M_manyBelow u_M_above u_M_below u_M_at u_M_begin u_M_kind u_M_value u_M_read u_M_acts u_M_act u_M_waits u_M_wait u_M_held u_M_place u_M_heap u_M_clocks u_M_counts u_M_talking u_M_most u_M_hasA u_M_hasB u_M_talks u_M_big a_M_refused a_M_now) H) (hD : va_D A (ws_X11_person cI cJ cZ cA q_M q_M_refused q_M_now u_M_images u_M_kept u_M_text u_M_size u_M_sign u_M_manyAbove u_M_manyBelow u_M_above u_M_below u_M_at u_M_begin u_M_kind u_M_value u_M_read u_M_acts u_M_act u_M_waits u_M_wait u_M_held u_M_place u_M_heap u_M_clocks u_M_counts u_M_talking u_M_most u_M_hasA u_M_hasB u_M_talks u_M_big a_M_refused a_M_now)) (hS : va_S A s.heap H locs), g_X11_person_22 x1 x2 a_M_refused a_M_now = some o → W p l e rm_X11_person s m args below meth c H locs 0 0 Q (F0 m 22 ls []) := by
    intro  a_M_refused a_M_now H locs ls hl hP hD hS hg
    refine lv_aload_n hx hb dX11_person_22 rfl (lv_at hl 0 rfl) ?_
    refine lv_bipush (v := (-2)) hx hb dX11_person_23 (by decide) ?_
    obtain ⟨v3, hc4, hg⟩ := zbd hg
    refine zcallV (rest := []) S (c_X11_refuse l D cI cJ cZ cA ga q_M q_M_refused (.ref q_M_now) u_M_images u_M_kept u_M_text u_M_size u_M_sign u_M_manyAbove u_M_manyBelow u_M_above u_M_below u_M_at u_M_begin u_M_kind u_M_value u_M_read u_M_acts u_M_act u_M_waits u_M_wait u_M_held u_M_place u_M_heap u_M_clocks u_M_counts u_M_talking u_M_most u_M_hasA u_M_hasB u_M_talks u_M_big a_M_refused (-2) v3 hc4) (zgV zw_223 zw_224 zw_225 zw_5 zw_226) rfl hd_X11_refuse ⟨rfl, rfl⟩ ⟨Nat.le_of_ble_eq_true rfl, Nat.le_of_ble_eq_true rfl⟩ 0 11 rfl rfl rfl hl.1 rfl (Nat.le_of_ble_eq_true rfl) dX11_person_25 hP hD hS hA hK hG (isC := [0, 1]) rfl rfl rfl (w2 := (ws_X11_person cI cJ cZ cA q_M q_M_refused q_M_now u_M_images u_M_kept u_M_text u_M_size u_M_sign u_M_manyAbove u_M_manyBelow u_M_above u_M_below u_M_at u_M_begin u_M_kind u_M_value u_M_read u_M_acts u_M_act u_M_waits u_M_wait u_M_held u_M_place u_M_heap u_M_clocks u_M_counts u_M_talking u_M_most u_M_hasA u_M_hasB u_M_talks u_M_big v3.2 a_M_now)) rfl (st1 := [.int v3.1]) rfl (fun H locs hP hD hS => ?_)
    exact hret v3.1 v3.2 a_M_now hg _ _ _ _ hP hS dX11_person_28
  refine lv_iload_n hx hb dX11_person_0 rfl (lv_at hl 1 rfl) ?_
  refine lv_i2l hx hb dX11_person_1 rfl ?_
  refine lv_lconst (v := 0) hx hb dX11_person_2 (by decide) ?_
  refine lv_ldc2 (v := 5) hx hb S.2.2.2.1 (ht _ zw_253) dX11_person_3 ?_
  obtain ⟨v1, hc2, hg⟩ := zbd hg
  refine zcallS (rest := []) S (c_X11_in l D cI cJ cZ cA ga x1.toInt64 (0 : Int64) (5 : Int64) v1 hc2) (zgS zw_220 zw_221 zw_5 zw_222) rfl hd_X11_in ⟨rfl, rfl⟩ ⟨Nat.le_of_ble_eq_true rfl, Nat.le_of_ble_eq_true rfl⟩ rfl hl.1 rfl (Nat.le_of_ble_eq_true rfl) dX11_person_6 hP hD hS hA hK hG (isC := []) rfl rfl rfl (w2 := (ws_X11_person cI cJ cZ cA q_M q_M_refused q_M_now u_M_images u_M_kept u_M_text u_M_size u_M_sign u_M_manyAbove u_M_manyBelow u_M_above u_M_below u_M_at u_M_begin u_M_kind u_M_value u_M_read u_M_acts u_M_act u_M_waits u_M_wait u_M_held u_M_place u_M_heap u_M_clocks u_M_counts u_M_talking u_M_most u_M_hasA u_M_hasB u_M_talks u_M_big a_M_refused a_M_now)) rfl (st1 := [.int v1]) rfl (fun H locs hP hD hS => ?_)
  refine lv_if_eq (tgt := 22) hx hb dX11_person_9 (by decide) (fun h9 => ?_) (fun h9 => ?_)
  · have hg := zp hg h9
    exact B22 a_M_refused a_M_now _ _ _ (lv_sub hl [0] rfl) hP hD hS hg
  · have hg := zn hg h9
    refine lv_iload_n hx hb dX11_person_12 rfl (lv_at hl 2 rfl) ?_
    refine lv_i2l hx hb dX11_person_13 rfl ?_
    refine lv_lconst (v := 0) hx hb dX11_person_14 (by decide) ?_
    refine lv_lconst (v := 1) hx hb dX11_person_15 (by decide) ?_
    obtain ⟨v5, hc6, hg⟩ := zbd hg
    refine zcallS (rest := []) S (c_X11_in l D cI cJ cZ cA ga x2.toInt64 (0 : Int64) (1 : Int64) v5 hc6) (zgS zw_220 zw_221 zw_5 zw_222) rfl hd_X11_in ⟨rfl, rfl⟩ ⟨Nat.le_of_ble_eq_true rfl, Nat.le_of_ble_eq_true rfl⟩ rfl hl.1 rfl (Nat.le_of_ble_eq_true rfl) dX11_person_16 hP hD hS hA hK hG (isC := []) rfl rfl rfl (w2 := (ws_X11_person cI cJ cZ cA q_M q_M_refused q_M_now u_M_images u_M_kept u_M_text u_M_size u_M_sign u_M_manyAbove u_M_manyBelow u_M_above u_M_below u_M_at u_M_begin u_M_kind u_M_value u_M_read u_M_acts u_M_act u_M_waits u_M_wait u_M_held u_M_place u_M_heap u_M_clocks u_M_counts u_M_talking u_M_most u_M_hasA u_M_hasB u_M_talks u_M_big a_M_refused a_M_now)) rfl (st1 := [.int v5]) rfl (fun H locs hP hD hS => ?_)
    refine lv_if_ne (tgt := 29) hx hb dX11_person_19 (by decide) (fun h19 => ?_) (fun h19 => ?_)
    · have hg := zn hg h19
      refine lv_aload_n hx hb dX11_person_29 rfl (lv_at hl 0 rfl) ?_
      refine zget (C := RX11) (T := TX11) (N := 31) S hK hP 0 rfl rfl 0 (Nat.le_of_ble_eq_true rfl) zf_11 zw_149 rfl dX11_person_30 ?_
      refine lv_iconst (v := 3) hx hb dX11_person_33 (by decide) ?_
      refine ziald hx hb hK hP 2 0 rfl rfl (j := 3) (zin (by decide)) (by decide) dX11_person_34 ?_
      refine lv_iconst (v := 5) hx hb dX11_person_35 (by decide) ?_
      refine lv_icmp_ne (tgt := 46) hx hb dX11_person_36 (by decide) (fun h36 => ?_) (fun h36 => ?_)
      · have hg := zn hg h36
        refine lv_aload_n hx hb dX11_person_46 rfl (lv_at hl 0 rfl) ?_
        refine zget (C := RX11) (T := TX11) (N := 31) S hK hP 0 rfl rfl 0 (Nat.le_of_ble_eq_true rfl) zf_11 zw_149 rfl dX11_person_47 ?_
        refine lv_iconst (v := 3) hx hb dX11_person_50 (by decide) ?_
        refine ziald hx hb hK hP 2 0 rfl rfl (j := 3) (zin (by decide)) (by decide) dX11_person_51 ?_
        refine lv_istore_n (lv' := [(3, .int (a_M_now 3)), (0, .ref q_M), (1, .int x1), (2, .int x2)]) hx hb dX11_person_52 rfl hl (by decide) rfl (fun ls hl => ?_)
        refine lv_aload_n hx hb dX11_person_53 rfl (lv_at hl 1 rfl) ?_
        refine zget (C := RX11) (T := TX11) (N := 31) S hK hP 0 rfl rfl 0 (Nat.le_of_ble_eq_true rfl) zf_11 zw_149 rfl dX11_person_54 ?_
        refine lv_bipush (v := 13) hx hb dX11_person_57 (by decide) ?_
        refine lv_iload_n hx hb dX11_person_59 rfl (lv_at hl 0 rfl) ?_
        refine lv_iadd hx hb dX11_person_60 ?_
        refine lv_iload_n hx hb dX11_person_61 rfl (lv_at hl 2 rfl) ?_
        obtain ⟨h7, hg⟩ := zck hg
        refine ziast hx hb hK hP hD hS 2 0 rfl rfl (j := ((13 + (a_M_now 3)).toNatClampNeg)) h7 rfl dX11_person_62 (w2 := (ws_X11_person cI cJ cZ cA q_M q_M_refused q_M_now u_M_images u_M_kept u_M_text u_M_size u_M_sign u_M_manyAbove u_M_manyBelow u_M_above u_M_below u_M_at u_M_begin u_M_kind u_M_value u_M_read u_M_acts u_M_act u_M_waits u_M_wait u_M_held u_M_place u_M_heap u_M_clocks u_M_counts u_M_talking u_M_most u_M_hasA u_M_hasB u_M_talks u_M_big a_M_refused (upd a_M_now ((13 + (a_M_now 3)).toNatClampNeg) x1))) rfl (fun H locs hP hD hS => ?_)
        refine lv_aload_n hx hb dX11_person_63 rfl (lv_at hl 1 rfl) ?_
        refine zget (C := RX11) (T := TX11) (N := 31) S hK hP 0 rfl rfl 0 (Nat.le_of_ble_eq_true rfl) zf_11 zw_149 rfl dX11_person_64 ?_
        refine lv_bipush (v := 18) hx hb dX11_person_67 (by decide) ?_
        refine lv_iload_n hx hb dX11_person_69 rfl (lv_at hl 0 rfl) ?_
        refine lv_iadd hx hb dX11_person_70 ?_
        refine lv_iload_n hx hb dX11_person_71 rfl (lv_at hl 3 rfl) ?_
        obtain ⟨h8, hg⟩ := zck hg
        refine ziast hx hb hK hP hD hS 2 0 rfl rfl (j := ((18 + (a_M_now 3)).toNatClampNeg)) h8 rfl dX11_person_72 (w2 := (ws_X11_person cI cJ cZ cA q_M q_M_refused q_M_now u_M_images u_M_kept u_M_text u_M_size u_M_sign u_M_manyAbove u_M_manyBelow u_M_above u_M_below u_M_at u_M_begin u_M_kind u_M_value u_M_read u_M_acts u_M_act u_M_waits u_M_wait u_M_held u_M_place u_M_heap u_M_clocks u_M_counts u_M_talking u_M_most u_M_hasA u_M_hasB u_M_talks u_M_big a_M_refused (upd (upd a_M_now ((13 + (a_M_now 3)).toNatClampNeg) x1) ((18 + (a_M_now 3)).toNatClampNeg) x2))) rfl (fun H locs hP hD hS => ?_)
        refine lv_aload_n hx hb dX11_person_73 rfl (lv_at hl 1 rfl) ?_
        refine zget (C := RX11) (T := TX11) (N := 31) S hK hP 0 rfl rfl 0 (Nat.le_of_ble_eq_true rfl) zf_11 zw_149 rfl dX11_person_74 ?_
        refine lv_iconst (v := 3) hx hb dX11_person_77 (by decide) ?_
        refine lv_dup2_11 hx hb dX11_person_78 rfl rfl ?_
        refine ziald hx hb hK hP 2 0 rfl rfl (j := 3) (zin (by decide)) (by decide) dX11_person_79 ?_
        refine lv_iconst (v := 1) hx hb dX11_person_80 (by decide) ?_
        refine lv_iadd hx hb dX11_person_81 ?_
        refine ziast hx hb hK hP hD hS 2 0 rfl rfl (j := 3) (zin (by decide)) (by decide) dX11_person_82 (w2 := (ws_X11_person cI cJ cZ cA q_M q_M_refused q_M_now u_M_images u_M_kept u_M_text u_M_size u_M_sign u_M_manyAbove u_M_manyBelow u_M_above u_M_below u_M_at u_M_begin u_M_kind u_M_value u_M_read u_M_acts u_M_act u_M_waits u_M_wait u_M_held u_M_place u_M_heap u_M_clocks u_M_counts u_M_talking u_M_most u_M_hasA u_M_hasB u_M_talks u_M_big a_M_refused (upd (upd (upd a_M_now ((13 + (a_M_now 3)).toNatClampNeg) x1) ((18 + (a_M_now 3)).toNatClampNeg) x2) 3 (((upd (upd a_M_now ((13 + (a_M_now 3)).toNatClampNeg) x1) ((18 + (a_M_now 3)).toNatClampNeg) x2) 3) + 1)))) rfl (fun H locs hP hD hS => ?_)
        refine lv_iload_n hx hb dX11_person_83 rfl (lv_at hl 0 rfl) ?_
        exact hret (a_M_now 3) a_M_refused (upd (upd (upd a_M_now ((13 + (a_M_now 3)).toNatClampNeg) x1) ((18 + (a_M_now 3)).toNatClampNeg) x2) 3 (((upd (upd a_M_now ((13 + (a_M_now 3)).toNatClampNeg) x1) ((18 + (a_M_now 3)).toNatClampNeg) x2) 3) + 1)) hg _ _ _ _ hP hS dX11_person_84
      · have hg := zp hg h36
        refine lv_aload_n hx hb dX11_person_39 rfl (lv_at hl 0 rfl) ?_
        refine lv_bipush (v := (-4)) hx hb dX11_person_40 (by decide) ?_
        obtain ⟨v9, hc10, hg⟩ := zbd hg
        refine zcallV (rest := []) S (c_X11_refuse l D cI cJ cZ cA ga q_M q_M_refused (.ref q_M_now) u_M_images u_M_kept u_M_text u_M_size u_M_sign u_M_manyAbove u_M_manyBelow u_M_above u_M_below u_M_at u_M_begin u_M_kind u_M_value u_M_read u_M_acts u_M_act u_M_waits u_M_wait u_M_held u_M_place u_M_heap u_M_clocks u_M_counts u_M_talking u_M_most u_M_hasA u_M_hasB u_M_talks u_M_big a_M_refused (-4) v9 hc10) (zgV zw_223 zw_224 zw_225 zw_5 zw_226) rfl hd_X11_refuse ⟨rfl, rfl⟩ ⟨Nat.le_of_ble_eq_true rfl, Nat.le_of_ble_eq_true rfl⟩ 0 11 rfl rfl rfl hl.1 rfl (Nat.le_of_ble_eq_true rfl) dX11_person_42 hP hD hS hA hK hG (isC := [0, 1]) rfl rfl rfl (w2 := (ws_X11_person cI cJ cZ cA q_M q_M_refused q_M_now u_M_images u_M_kept u_M_text u_M_size u_M_sign u_M_manyAbove u_M_manyBelow u_M_above u_M_below u_M_at u_M_begin u_M_kind u_M_value u_M_read u_M_acts u_M_act u_M_waits u_M_wait u_M_held u_M_place u_M_heap u_M_clocks u_M_counts u_M_talking u_M_most u_M_hasA u_M_hasB u_M_talks u_M_big v9.2 a_M_now)) rfl (st1 := [.int v9.1]) rfl (fun H locs hP hD hS => ?_)
        exact hret v9.1 v9.2 a_M_now hg _ _ _ _ hP hS dX11_person_45
    · have hg := zp hg h19
      exact B22 a_M_refused a_M_now _ _ _ (lv_sub hl [0] rfl) hP hD hS hg

/-! SpokenClockModel.talk(III)I -/
abbrev ws_X11_talk (cI cJ cZ cA : ClassId) (q_M q_M_now q_M_refused : Nat) (u_M_images : Value) (u_M_kept : Value) (u_M_text : Value) (u_M_size : Value) (u_M_sign : Value) (u_M_manyAbove : Value) (u_M_manyBelow : Value) (u_M_above : Value) (u_M_below : Value) (u_M_at : Value) (u_M_begin : Value) (u_M_kind : Value) (u_M_value : Value) (u_M_read : Value) (u_M_acts : Value) (u_M_act : Value) (u_M_waits : Value) (u_M_wait : Value) (u_M_held : Value) (u_M_place : Value) (u_M_heap : Value) (u_M_clocks : Value) (u_M_counts : Value) (u_M_talking : Value) (u_M_most : Value) (u_M_hasA : Value) (u_M_hasB : Value) (u_M_talks : Value) (u_M_big : Value) (a_M_now : Nat → Int32) (a_M_refused : Nat → Int32) : va_W := [(q_M, .inr (11, [.ref q_M_now, u_M_images, u_M_kept, u_M_text, u_M_size, u_M_sign, u_M_manyAbove, u_M_manyBelow, u_M_above, u_M_below, .ref q_M_refused, u_M_at, u_M_begin, u_M_kind, u_M_value, u_M_read, u_M_acts, u_M_act, u_M_waits, u_M_wait, u_M_held, u_M_place, u_M_heap, u_M_clocks, u_M_counts, u_M_talking, u_M_most, u_M_hasA, u_M_hasB, u_M_talks, u_M_big])), (q_M_now, .inl (cI, 155, .inl a_M_now)), (q_M_refused, .inl (cI, 3, .inl a_M_refused))]
abbrev rm_X11_talk : Room := { frames := 1, cells := 0, slots := 0, locals := 25 }
def g_X11_talk_34 (x1 : Int32) (x2 : Int32) (x3 : Int32) (a_M_now : Nat → Int32) (a_M_refused : Nat → Int32) : Option (Int32 × (Nat → Int32) × (Nat → Int32)) :=
  (g_X11_refuse (-2) a_M_refused).bind fun v3 =>
  some (v3.1, a_M_now, v3.2)
def g_X11_talk (x1 : Int32) (x2 : Int32) (x3 : Int32) (a_M_now : Nat → Int32) (a_M_refused : Nat → Int32) : Option (Int32 × (Nat → Int32) × (Nat → Int32)) :=
  (g_X11_in x1.toInt64 (0 : Int64) (((a_M_now 3) - 1).toInt64)).bind fun v1 =>
  if v1 = 0 then (
    g_X11_talk_34 x1 x2 x3 a_M_now a_M_refused
  ) else (
    if x2 < 0 then (
      g_X11_talk_34 x1 x2 x3 a_M_now a_M_refused
    ) else (
      if x3 ≤ x2 then (
        g_X11_talk_34 x1 x2 x3 a_M_now a_M_refused
      ) else (
        if x3 ≤ 240 then (
          if (a_M_now 4) = 16 then (
            (g_X11_refuse (-4) a_M_refused).bind fun v8 =>
            some (v8.1, a_M_now, v8.2)
          ) else (
            if (23 + (a_M_now 4)) < 0 ∨ 155 ≤ (23 + (a_M_now 4)).toNatClampNeg then none else
            if (39 + (a_M_now 4)) < 0 ∨ 155 ≤ (39 + (a_M_now 4)).toNatClampNeg then none else
            if (55 + (a_M_now 4)) < 0 ∨ 155 ≤ (55 + (a_M_now 4)).toNatClampNeg then none else
            some (a_M_now 4, upd (upd (upd (upd a_M_now ((23 + (a_M_now 4)).toNatClampNeg) x1) ((39 + (a_M_now 4)).toNatClampNeg) x2) ((55 + (a_M_now 4)).toNatClampNeg) x3) 4 (((upd (upd (upd a_M_now ((23 + (a_M_now 4)).toNatClampNeg) x1) ((39 + (a_M_now 4)).toNatClampNeg) x2) ((55 + (a_M_now 4)).toNatClampNeg) x3) 4) + 1), a_M_refused)
          )
        ) else (
          g_X11_talk_34 x1 x2 x3 a_M_now a_M_refused
        )
      )
    )
  )
theorem hd_X11_talk : yX11_talk.cls = RX11 ∧ yX11_talk.cls ≠ "java/lang/invoke/MethodHandle" ∧ yX11_talk.cls ≠ "java/lang/invoke/VarHandle" ∧ (parseMethodDescriptor yX11_talk.desc).map (fun d => d.parameters.length) = some 3 := by decide +kernel
set_option maxHeartbeats 4000000 in
set_option maxRecDepth 100000 in
theorem c_X11_talk (l : Launch) (D : va_G) (cI cJ cZ cA : ClassId) (ga : Nat → Nat) (q_M q_M_now q_M_refused : Nat) (u_M_images : Value) (u_M_kept : Value) (u_M_text : Value) (u_M_size : Value) (u_M_sign : Value) (u_M_manyAbove : Value) (u_M_manyBelow : Value) (u_M_above : Value) (u_M_below : Value) (u_M_at : Value) (u_M_begin : Value) (u_M_kind : Value) (u_M_value : Value) (u_M_read : Value) (u_M_acts : Value) (u_M_act : Value) (u_M_waits : Value) (u_M_wait : Value) (u_M_held : Value) (u_M_place : Value) (u_M_heap : Value) (u_M_clocks : Value) (u_M_counts : Value) (u_M_talking : Value) (u_M_most : Value) (u_M_hasA : Value) (u_M_hasB : Value) (u_M_talks : Value) (u_M_big : Value) (a_M_now : Nat → Int32) (a_M_refused : Nat → Int32) (x1 : Int32) (x2 : Int32) (x3 : Int32) (o : Int32 × (Nat → Int32) × (Nat → Int32)) (hg : g_X11_talk x1 x2 x3 a_M_now a_M_refused = some o) : zM l yX11_talk (Cond.code yX11_talk cX11_talk 5 (some .int) :: wsL_law) rm_X11_talk D (zTy cI cJ cZ cA) ga [.ref q_M, .int x1, .int x2, .int x3] (ws_X11_talk cI cJ cZ cA q_M q_M_now q_M_refused u_M_images u_M_kept u_M_text u_M_size u_M_sign u_M_manyAbove u_M_manyBelow u_M_above u_M_below u_M_at u_M_begin u_M_kind u_M_value u_M_read u_M_acts u_M_act u_M_waits u_M_wait u_M_held u_M_place u_M_heap u_M_clocks u_M_counts u_M_talking u_M_most u_M_hasA u_M_hasB u_M_talks u_M_big a_M_now a_M_refused) (ws_X11_talk cI cJ cZ cA q_M q_M_now q_M_refused u_M_images u_M_kept u_M_text u_M_size u_M_sign u_M_manyAbove u_M_manyBelow u_M_above u_M_below u_M_at u_M_begin u_M_kind u_M_value u_M_read u_M_acts u_M_act u_M_waits u_M_wait u_M_held u_M_place u_M_heap u_M_clocks u_M_counts u_M_talking u_M_most u_M_hasA u_M_hasB u_M_talks u_M_big o.2.1 o.2.2) (some (.int o.1)) := by
  refine zenterI (own := RX11) (by decide) rfl rfl (Nat.le_of_ble_eq_true rfl) ?_
  intro p e s m args below meth c A ls Q S hA hK hG hl hP hD hS hret0
  have hx := S.1
  have hb := S.2.1
  have ht : ∀ w, w ∈ wsL_law → w.before args s = true := fun w h => S.2.2.2.2 w (List.mem_cons_of_mem _ h)
  have hret : ∀ (r9 : Int32) (a_M_now : Nat → Int32) (a_M_refused : Nat → Int32), (some (r9, a_M_now, a_M_refused) : Option (Int32 × (Nat → Int32) × (Nat → Int32))) = some o → ∀ (H : Heap) (locs : List Loc) (pc : Nat) (ls : Array Slot), va_P D vwCl (ws_X11_talk cI cJ cZ cA q_M q_M_now q_M_refused u_M_images u_M_kept u_M_text u_M_size u_M_sign u_M_manyAbove u_M_manyBelow u_M_above u_M_below u_M_at u_M_begin u_M_kind u_M_value u_M_read u_M_acts u_M_act u_M_waits u_M_wait u_M_held u_M_place u_M_heap u_M_clocks u_M_counts u_M_talking u_M_most u_M_hasA u_M_hasB u_M_talks u_M_big a_M_now a_M_refused) H → va_S A s.heap H locs → decode cX11_talk pc = .ok (.ireturn, 1) → W p l e rm_X11_talk s m args below meth c H locs 0 0 Q (F0 m pc ls [.int r9]) := by
    intro r9 a_M_now a_M_refused he; cases he; exact hret0
  have hl : lv_has ls 5 [(0, .ref q_M), (1, .int x1), (2, .int x2), (3, .int x3)] := hl
  have B34 : ∀ (a_M_now : Nat → Int32) (a_M_refused : Nat → Int32) (H : Heap) (locs : List Loc) (ls : Array Slot) (hl : lv_has ls 5 [(0, .ref q_M)]) (hP : va_P D vwCl (ws_X11_talk cI cJ cZ cA q_M q_M_now q_M_refused u_M_images u_M_kept u_M_text u_M_size u_M_sign u_M_manyAbove u_M_manyBelow u_M_above u_M_below u_M_at u_M_begin u_M_kind u_M_value u_M_read u_M_acts u_M_act u_M_waits u_M_wait u_M_held u_M_place u_M_heap u_M_clocks u_M_counts u_M_talking u_M_most u_M_hasA u_M_hasB u_M_talks u_M_big a_M_now a_M_refused) H) (hD : va_D A (ws_X11_talk cI cJ cZ cA q_M q_M_now q_M_refused u_M_images u_M_kept u_M_text u_M_size u_M_sign u_M_manyAbove u_M_manyBelow u_M_above u_M_below u_M_at u_M_begin u_M_kind u_M_value u_M_read u_M_acts u_M_act u_M_waits u_M_wait u_M_held u_M_place u_M_heap u_M_clocks u_M_counts u_M_talking u_M_most u_M_hasA u_M_hasB u_M_talks u_M_big a_M_now a_M_refused)) (hS : va_S A s.heap H locs), g_X11_talk_34 x1 x2 x3 a_M_now a_M_refused = some o → W p l e rm_X11_talk s m args below meth c H locs 0 0 Q (F0 m 34 ls []) := by
    intro  a_M_now a_M_refused H locs ls hl hP hD hS hg
    refine lv_aload_n hx hb dX11_talk_34 rfl (lv_at hl 0 rfl) ?_
    refine lv_bipush (v := (-2)) hx hb dX11_talk_35 (by decide) ?_
    obtain ⟨v3, hc4, hg⟩ := zbd hg
    refine zcallV (rest := []) S (c_X11_refuse l D cI cJ cZ cA ga q_M q_M_refused (.ref q_M_now) u_M_images u_M_kept u_M_text u_M_size u_M_sign u_M_manyAbove u_M_manyBelow u_M_above u_M_below u_M_at u_M_begin u_M_kind u_M_value u_M_read u_M_acts u_M_act u_M_waits u_M_wait u_M_held u_M_place u_M_heap u_M_clocks u_M_counts u_M_talking u_M_most u_M_hasA u_M_hasB u_M_talks u_M_big a_M_refused (-2) v3 hc4) (zgV zw_223 zw_224 zw_225 zw_5 zw_226) rfl hd_X11_refuse ⟨rfl, rfl⟩ ⟨Nat.le_of_ble_eq_true rfl, Nat.le_of_ble_eq_true rfl⟩ 0 11 rfl rfl rfl hl.1 rfl (Nat.le_of_ble_eq_true rfl) dX11_talk_37 hP hD hS hA hK hG (isC := [0, 2]) rfl rfl rfl (w2 := (ws_X11_talk cI cJ cZ cA q_M q_M_now q_M_refused u_M_images u_M_kept u_M_text u_M_size u_M_sign u_M_manyAbove u_M_manyBelow u_M_above u_M_below u_M_at u_M_begin u_M_kind u_M_value u_M_read u_M_acts u_M_act u_M_waits u_M_wait u_M_held u_M_place u_M_heap u_M_clocks u_M_counts u_M_talking u_M_most u_M_hasA u_M_hasB u_M_talks u_M_big a_M_now v3.2)) rfl (st1 := [.int v3.1]) rfl (fun H locs hP hD hS => ?_)
    exact hret v3.1 a_M_now v3.2 hg _ _ _ _ hP hS dX11_talk_40
  refine lv_iload_n hx hb dX11_talk_0 rfl (lv_at hl 1 rfl) ?_
  refine lv_i2l hx hb dX11_talk_1 rfl ?_
  refine lv_lconst (v := 0) hx hb dX11_talk_2 (by decide) ?_
  refine lv_aload_n hx hb dX11_talk_3 rfl (lv_at hl 0 rfl) ?_
  refine zget (C := RX11) (T := TX11) (N := 31) S hK hP 0 rfl rfl 0 (Nat.le_of_ble_eq_true rfl) zf_11 zw_149 rfl dX11_talk_4 ?_
  refine lv_iconst (v := 3) hx hb dX11_talk_7 (by decide) ?_
  refine ziald hx hb hK hP 1 0 rfl rfl (j := 3) (zin (by decide)) (by decide) dX11_talk_8 ?_
  refine lv_iconst (v := 1) hx hb dX11_talk_9 (by decide) ?_
  refine lv_isub hx hb dX11_talk_10 ?_
  refine lv_i2l hx hb dX11_talk_11 rfl ?_
  obtain ⟨v1, hc2, hg⟩ := zbd hg
  refine zcallS (rest := []) S (c_X11_in l D cI cJ cZ cA ga x1.toInt64 (0 : Int64) (((a_M_now 3) - 1).toInt64) v1 hc2) (zgS zw_220 zw_221 zw_5 zw_222) rfl hd_X11_in ⟨rfl, rfl⟩ ⟨Nat.le_of_ble_eq_true rfl, Nat.le_of_ble_eq_true rfl⟩ rfl hl.1 rfl (Nat.le_of_ble_eq_true rfl) dX11_talk_12 hP hD hS hA hK hG (isC := []) rfl rfl rfl (w2 := (ws_X11_talk cI cJ cZ cA q_M q_M_now q_M_refused u_M_images u_M_kept u_M_text u_M_size u_M_sign u_M_manyAbove u_M_manyBelow u_M_above u_M_below u_M_at u_M_begin u_M_kind u_M_value u_M_read u_M_acts u_M_act u_M_waits u_M_wait u_M_held u_M_place u_M_heap u_M_clocks u_M_counts u_M_talking u_M_most u_M_hasA u_M_hasB u_M_talks u_M_big a_M_now a_M_refused)) rfl (st1 := [.int v1]) rfl (fun H locs hP hD hS => ?_)
  refine lv_if_eq (tgt := 34) hx hb dX11_talk_15 (by decide) (fun h15 => ?_) (fun h15 => ?_)
  · have hg := zp hg h15
    exact B34 a_M_now a_M_refused _ _ _ (lv_sub hl [0] rfl) hP hD hS hg
  · have hg := zn hg h15
    refine lv_iload_n hx hb dX11_talk_18 rfl (lv_at hl 2 rfl) ?_
    refine lv_if_lt (tgt := 34) hx hb dX11_talk_19 (by decide) (fun h19 => ?_) (fun h19 => ?_)
    · have hg := zp hg h19
      exact B34 a_M_now a_M_refused _ _ _ (lv_sub hl [0] rfl) hP hD hS hg
    · have hg := zn hg h19
      refine lv_iload_n hx hb dX11_talk_22 rfl (lv_at hl 2 rfl) ?_
      refine lv_iload_n hx hb dX11_talk_23 rfl (lv_at hl 3 rfl) ?_
      refine lv_icmp_ge (tgt := 34) hx hb dX11_talk_24 (by decide) (fun h24 => ?_) (fun h24 => ?_)
      · have hg := zp hg h24
        exact B34 a_M_now a_M_refused _ _ _ (lv_sub hl [0] rfl) hP hD hS hg
      · have hg := zn hg h24
        refine lv_iload_n hx hb dX11_talk_27 rfl (lv_at hl 3 rfl) ?_
        refine lv_sipush (v := 240) hx hb dX11_talk_28 (by decide) ?_
        refine lv_icmp_le (tgt := 41) hx hb dX11_talk_31 (by decide) (fun h31 => ?_) (fun h31 => ?_)
        · have hg := zp hg h31
          refine lv_aload_n hx hb dX11_talk_41 rfl (lv_at hl 0 rfl) ?_
          refine zget (C := RX11) (T := TX11) (N := 31) S hK hP 0 rfl rfl 0 (Nat.le_of_ble_eq_true rfl) zf_11 zw_149 rfl dX11_talk_42 ?_
          refine lv_iconst (v := 4) hx hb dX11_talk_45 (by decide) ?_
          refine ziald hx hb hK hP 1 0 rfl rfl (j := 4) (zin (by decide)) (by decide) dX11_talk_46 ?_
          refine lv_bipush (v := 16) hx hb dX11_talk_47 (by decide) ?_
          refine lv_icmp_ne (tgt := 59) hx hb dX11_talk_49 (by decide) (fun h49 => ?_) (fun h49 => ?_)
          · have hg := zn hg h49
            refine lv_aload_n hx hb dX11_talk_59 rfl (lv_at hl 0 rfl) ?_
            refine zget (C := RX11) (T := TX11) (N := 31) S hK hP 0 rfl rfl 0 (Nat.le_of_ble_eq_true rfl) zf_11 zw_149 rfl dX11_talk_60 ?_
            refine lv_iconst (v := 4) hx hb dX11_talk_63 (by decide) ?_
            refine ziald hx hb hK hP 1 0 rfl rfl (j := 4) (zin (by decide)) (by decide) dX11_talk_64 ?_
            refine lv_istore (lv' := [(4, .int (a_M_now 4)), (0, .ref q_M), (1, .int x1), (2, .int x2), (3, .int x3)]) hx hb dX11_talk_65 hl (by decide) rfl (fun ls hl => ?_)
            refine lv_aload_n hx hb dX11_talk_67 rfl (lv_at hl 1 rfl) ?_
            refine zget (C := RX11) (T := TX11) (N := 31) S hK hP 0 rfl rfl 0 (Nat.le_of_ble_eq_true rfl) zf_11 zw_149 rfl dX11_talk_68 ?_
            refine lv_bipush (v := 23) hx hb dX11_talk_71 (by decide) ?_
            refine lv_iload hx hb dX11_talk_73 (lv_at hl 0 rfl) ?_
            refine lv_iadd hx hb dX11_talk_75 ?_
            refine lv_iload_n hx hb dX11_talk_76 rfl (lv_at hl 2 rfl) ?_
            obtain ⟨h5, hg⟩ := zck hg
            refine ziast hx hb hK hP hD hS 1 0 rfl rfl (j := ((23 + (a_M_now 4)).toNatClampNeg)) h5 rfl dX11_talk_77 (w2 := (ws_X11_talk cI cJ cZ cA q_M q_M_now q_M_refused u_M_images u_M_kept u_M_text u_M_size u_M_sign u_M_manyAbove u_M_manyBelow u_M_above u_M_below u_M_at u_M_begin u_M_kind u_M_value u_M_read u_M_acts u_M_act u_M_waits u_M_wait u_M_held u_M_place u_M_heap u_M_clocks u_M_counts u_M_talking u_M_most u_M_hasA u_M_hasB u_M_talks u_M_big (upd a_M_now ((23 + (a_M_now 4)).toNatClampNeg) x1) a_M_refused)) rfl (fun H locs hP hD hS => ?_)
            refine lv_aload_n hx hb dX11_talk_78 rfl (lv_at hl 1 rfl) ?_
            refine zget (C := RX11) (T := TX11) (N := 31) S hK hP 0 rfl rfl 0 (Nat.le_of_ble_eq_true rfl) zf_11 zw_149 rfl dX11_talk_79 ?_
            refine lv_bipush (v := 39) hx hb dX11_talk_82 (by decide) ?_
            refine lv_iload hx hb dX11_talk_84 (lv_at hl 0 rfl) ?_
            refine lv_iadd hx hb dX11_talk_86 ?_
            refine lv_iload_n hx hb dX11_talk_87 rfl (lv_at hl 3 rfl) ?_
            obtain ⟨h6, hg⟩ := zck hg
            refine ziast hx hb hK hP hD hS 1 0 rfl rfl (j := ((39 + (a_M_now 4)).toNatClampNeg)) h6 rfl dX11_talk_88 (w2 := (ws_X11_talk cI cJ cZ cA q_M q_M_now q_M_refused u_M_images u_M_kept u_M_text u_M_size u_M_sign u_M_manyAbove u_M_manyBelow u_M_above u_M_below u_M_at u_M_begin u_M_kind u_M_value u_M_read u_M_acts u_M_act u_M_waits u_M_wait u_M_held u_M_place u_M_heap u_M_clocks u_M_counts u_M_talking u_M_most u_M_hasA u_M_hasB u_M_talks u_M_big (upd (upd a_M_now ((23 + (a_M_now 4)).toNatClampNeg) x1) ((39 + (a_M_now 4)).toNatClampNeg) x2) a_M_refused)) rfl (fun H locs hP hD hS => ?_)
            refine lv_aload_n hx hb dX11_talk_89 rfl (lv_at hl 1 rfl) ?_
            refine zget (C := RX11) (T := TX11) (N := 31) S hK hP 0 rfl rfl 0 (Nat.le_of_ble_eq_true rfl) zf_11 zw_149 rfl dX11_talk_90 ?_
            refine lv_bipush (v := 55) hx hb dX11_talk_93 (by decide) ?_
            refine lv_iload hx hb dX11_talk_95 (lv_at hl 0 rfl) ?_
            refine lv_iadd hx hb dX11_talk_97 ?_
            refine lv_iload_n hx hb dX11_talk_98 rfl (lv_at hl 4 rfl) ?_
            obtain ⟨h7, hg⟩ := zck hg
            refine ziast hx hb hK hP hD hS 1 0 rfl rfl (j := ((55 + (a_M_now 4)).toNatClampNeg)) h7 rfl dX11_talk_99 (w2 := (ws_X11_talk cI cJ cZ cA q_M q_M_now q_M_refused u_M_images u_M_kept u_M_text u_M_size u_M_sign u_M_manyAbove u_M_manyBelow u_M_above u_M_below u_M_at u_M_begin u_M_kind u_M_value u_M_read u_M_acts u_M_act u_M_waits u_M_wait u_M_held u_M_place u_M_heap u_M_clocks u_M_counts u_M_talking u_M_most u_M_hasA u_M_hasB u_M_talks u_M_big (upd (upd (upd a_M_now ((23 + (a_M_now 4)).toNatClampNeg) x1) ((39 + (a_M_now 4)).toNatClampNeg) x2) ((55 + (a_M_now 4)).toNatClampNeg) x3) a_M_refused)) rfl (fun H locs hP hD hS => ?_)
            refine lv_aload_n hx hb dX11_talk_100 rfl (lv_at hl 1 rfl) ?_
            refine zget (C := RX11) (T := TX11) (N := 31) S hK hP 0 rfl rfl 0 (Nat.le_of_ble_eq_true rfl) zf_11 zw_149 rfl dX11_talk_101 ?_
            refine lv_iconst (v := 4) hx hb dX11_talk_104 (by decide) ?_
            refine lv_dup2_11 hx hb dX11_talk_105 rfl rfl ?_
            refine ziald hx hb hK hP 1 0 rfl rfl (j := 4) (zin (by decide)) (by decide) dX11_talk_106 ?_
            refine lv_iconst (v := 1) hx hb dX11_talk_107 (by decide) ?_
            refine lv_iadd hx hb dX11_talk_108 ?_
            refine ziast hx hb hK hP hD hS 1 0 rfl rfl (j := 4) (zin (by decide)) (by decide) dX11_talk_109 (w2 := (ws_X11_talk cI cJ cZ cA q_M q_M_now q_M_refused u_M_images u_M_kept u_M_text u_M_size u_M_sign u_M_manyAbove u_M_manyBelow u_M_above u_M_below u_M_at u_M_begin u_M_kind u_M_value u_M_read u_M_acts u_M_act u_M_waits u_M_wait u_M_held u_M_place u_M_heap u_M_clocks u_M_counts u_M_talking u_M_most u_M_hasA u_M_hasB u_M_talks u_M_big (upd (upd (upd (upd a_M_now ((23 + (a_M_now 4)).toNatClampNeg) x1) ((39 + (a_M_now 4)).toNatClampNeg) x2) ((55 + (a_M_now 4)).toNatClampNeg) x3) 4 (((upd (upd (upd a_M_now ((23 + (a_M_now 4)).toNatClampNeg) x1) ((39 + (a_M_now 4)).toNatClampNeg) x2) ((55 + (a_M_now 4)).toNatClampNeg) x3) 4) + 1)) a_M_refused)) rfl (fun H locs hP hD hS => ?_)
            refine lv_iload hx hb dX11_talk_110 (lv_at hl 0 rfl) ?_
            exact hret (a_M_now 4) (upd (upd (upd (upd a_M_now ((23 + (a_M_now 4)).toNatClampNeg) x1) ((39 + (a_M_now 4)).toNatClampNeg) x2) ((55 + (a_M_now 4)).toNatClampNeg) x3) 4 (((upd (upd (upd a_M_now ((23 + (a_M_now 4)).toNatClampNeg) x1) ((39 + (a_M_now 4)).toNatClampNeg) x2) ((55 + (a_M_now 4)).toNatClampNeg) x3) 4) + 1)) a_M_refused hg _ _ _ _ hP hS dX11_talk_112
          · have hg := zp hg h49
            refine lv_aload_n hx hb dX11_talk_52 rfl (lv_at hl 0 rfl) ?_
            refine lv_bipush (v := (-4)) hx hb dX11_talk_53 (by decide) ?_
            obtain ⟨v8, hc9, hg⟩ := zbd hg
            refine zcallV (rest := []) S (c_X11_refuse l D cI cJ cZ cA ga q_M q_M_refused (.ref q_M_now) u_M_images u_M_kept u_M_text u_M_size u_M_sign u_M_manyAbove u_M_manyBelow u_M_above u_M_below u_M_at u_M_begin u_M_kind u_M_value u_M_read u_M_acts u_M_act u_M_waits u_M_wait u_M_held u_M_place u_M_heap u_M_clocks u_M_counts u_M_talking u_M_most u_M_hasA u_M_hasB u_M_talks u_M_big a_M_refused (-4) v8 hc9) (zgV zw_223 zw_224 zw_225 zw_5 zw_226) rfl hd_X11_refuse ⟨rfl, rfl⟩ ⟨Nat.le_of_ble_eq_true rfl, Nat.le_of_ble_eq_true rfl⟩ 0 11 rfl rfl rfl hl.1 rfl (Nat.le_of_ble_eq_true rfl) dX11_talk_55 hP hD hS hA hK hG (isC := [0, 2]) rfl rfl rfl (w2 := (ws_X11_talk cI cJ cZ cA q_M q_M_now q_M_refused u_M_images u_M_kept u_M_text u_M_size u_M_sign u_M_manyAbove u_M_manyBelow u_M_above u_M_below u_M_at u_M_begin u_M_kind u_M_value u_M_read u_M_acts u_M_act u_M_waits u_M_wait u_M_held u_M_place u_M_heap u_M_clocks u_M_counts u_M_talking u_M_most u_M_hasA u_M_hasB u_M_talks u_M_big a_M_now v8.2)) rfl (st1 := [.int v8.1]) rfl (fun H locs hP hD hS => ?_)
            exact hret v8.1 a_M_now v8.2 hg _ _ _ _ hP hS dX11_talk_58
        · have hg := zn hg h31
          exact B34 a_M_now a_M_refused _ _ _ (lv_sub hl [0] rfl) hP hD hS hg

/-! SpokenClockModel.due(III)I -/
abbrev ws_X11_due (cI cJ cZ cA : ClassId) (q_M q_M_refused q_M_now : Nat) (u_M_images : Value) (u_M_kept : Value) (u_M_text : Value) (u_M_size : Value) (u_M_sign : Value) (u_M_manyAbove : Value) (u_M_manyBelow : Value) (u_M_above : Value) (u_M_below : Value) (u_M_at : Value) (u_M_begin : Value) (u_M_kind : Value) (u_M_value : Value) (u_M_read : Value) (u_M_acts : Value) (u_M_act : Value) (u_M_waits : Value) (u_M_wait : Value) (u_M_held : Value) (u_M_place : Value) (u_M_heap : Value) (u_M_clocks : Value) (u_M_counts : Value) (u_M_talking : Value) (u_M_most : Value) (u_M_hasA : Value) (u_M_hasB : Value) (u_M_talks : Value) (u_M_big : Value) (a_M_refused : Nat → Int32) (a_M_now : Nat → Int32) : va_W := [(q_M, .inr (11, [.ref q_M_now, u_M_images, u_M_kept, u_M_text, u_M_size, u_M_sign, u_M_manyAbove, u_M_manyBelow, u_M_above, u_M_below, .ref q_M_refused, u_M_at, u_M_begin, u_M_kind, u_M_value, u_M_read, u_M_acts, u_M_act, u_M_waits, u_M_wait, u_M_held, u_M_place, u_M_heap, u_M_clocks, u_M_counts, u_M_talking, u_M_most, u_M_hasA, u_M_hasB, u_M_talks, u_M_big])), (q_M_refused, .inl (cI, 3, .inl a_M_refused)), (q_M_now, .inl (cI, 155, .inl a_M_now))]
abbrev rm_X11_due : Room := { frames := 1, cells := 0, slots := 0, locals := 25 }
def g_X11_due_38 (x1 : Int32) (x2 : Int32) (x3 : Int32) (a_M_refused : Nat → Int32) (a_M_now : Nat → Int32) : Option (Int32 × (Nat → Int32) × (Nat → Int32)) :=
  (g_X11_refuse (-2) a_M_refused).bind fun v3 =>
  some (v3.1, v3.2, a_M_now)
def g_X11_due (x1 : Int32) (x2 : Int32) (x3 : Int32) (a_M_refused : Nat → Int32) (a_M_now : Nat → Int32) : Option (Int32 × (Nat → Int32) × (Nat → Int32)) :=
  (g_X11_in x1.toInt64 (0 : Int64) (99 : Int64)).bind fun v1 =>
  if v1 = 0 then (
    g_X11_due_38 x1 x2 x3 a_M_refused a_M_now
  ) else (
    (g_X11_in x2.toInt64 (0 : Int64) (99 : Int64)).bind fun v5 =>
    if v5 = 0 then (
      g_X11_due_38 x1 x2 x3 a_M_refused a_M_now
    ) else (
      (g_X11_in x3.toInt64 (-99 : Int64) (99 : Int64)).bind fun v7 =>
      if v7 = 0 then (
        g_X11_due_38 x1 x2 x3 a_M_refused a_M_now
      ) else (
        if (a_M_now 5) = 8 then (
          (g_X11_refuse (-4) a_M_refused).bind fun v12 =>
          some (v12.1, v12.2, a_M_now)
        ) else (
          if (71 + (a_M_now 5)) < 0 ∨ 155 ≤ (71 + (a_M_now 5)).toNatClampNeg then none else
          if (79 + (a_M_now 5)) < 0 ∨ 155 ≤ (79 + (a_M_now 5)).toNatClampNeg then none else
          if (87 + (a_M_now 5)) < 0 ∨ 155 ≤ (87 + (a_M_now 5)).toNatClampNeg then none else
          some (a_M_now 5, a_M_refused, upd (upd (upd (upd a_M_now ((71 + (a_M_now 5)).toNatClampNeg) x1) ((79 + (a_M_now 5)).toNatClampNeg) x2) ((87 + (a_M_now 5)).toNatClampNeg) x3) 5 (((upd (upd (upd a_M_now ((71 + (a_M_now 5)).toNatClampNeg) x1) ((79 + (a_M_now 5)).toNatClampNeg) x2) ((87 + (a_M_now 5)).toNatClampNeg) x3) 5) + 1))
        )
      )
    )
  )
theorem hd_X11_due : yX11_due.cls = RX11 ∧ yX11_due.cls ≠ "java/lang/invoke/MethodHandle" ∧ yX11_due.cls ≠ "java/lang/invoke/VarHandle" ∧ (parseMethodDescriptor yX11_due.desc).map (fun d => d.parameters.length) = some 3 := by decide +kernel
set_option maxHeartbeats 4000000 in
set_option maxRecDepth 100000 in
theorem c_X11_due (l : Launch) (D : va_G) (cI cJ cZ cA : ClassId) (ga : Nat → Nat) (q_M q_M_refused q_M_now : Nat) (u_M_images : Value) (u_M_kept : Value) (u_M_text : Value) (u_M_size : Value) (u_M_sign : Value) (u_M_manyAbove : Value) (u_M_manyBelow : Value) (u_M_above : Value) (u_M_below : Value) (u_M_at : Value) (u_M_begin : Value) (u_M_kind : Value) (u_M_value : Value) (u_M_read : Value) (u_M_acts : Value) (u_M_act : Value) (u_M_waits : Value) (u_M_wait : Value) (u_M_held : Value) (u_M_place : Value) (u_M_heap : Value) (u_M_clocks : Value) (u_M_counts : Value) (u_M_talking : Value) (u_M_most : Value) (u_M_hasA : Value) (u_M_hasB : Value) (u_M_talks : Value) (u_M_big : Value) (a_M_refused : Nat → Int32) (a_M_now : Nat → Int32) (x1 : Int32) (x2 : Int32) (x3 : Int32) (o : Int32 × (Nat → Int32) × (Nat → Int32)) (hg : g_X11_due x1 x2 x3 a_M_refused a_M_now = some o) : zM l yX11_due (Cond.code yX11_due cX11_due 5 (some .int) :: wsL_law) rm_X11_due D (zTy cI cJ cZ cA) ga [.ref q_M, .int x1, .int x2, .int x3] (ws_X11_due cI cJ cZ cA q_M q_M_refused q_M_now u_M_images u_M_kept u_M_text u_M_size u_M_sign u_M_manyAbove u_M_manyBelow u_M_above u_M_below u_M_at u_M_begin u_M_kind u_M_value u_M_read u_M_acts u_M_act u_M_waits u_M_wait u_M_held u_M_place u_M_heap u_M_clocks u_M_counts u_M_talking u_M_most u_M_hasA u_M_hasB u_M_talks u_M_big a_M_refused a_M_now) (ws_X11_due cI cJ cZ cA q_M q_M_refused q_M_now u_M_images u_M_kept u_M_text u_M_size u_M_sign u_M_manyAbove u_M_manyBelow u_M_above u_M_below u_M_at u_M_begin u_M_kind u_M_value u_M_read u_M_acts u_M_act u_M_waits u_M_wait u_M_held u_M_place u_M_heap u_M_clocks u_M_counts u_M_talking u_M_most u_M_hasA u_M_hasB u_M_talks u_M_big o.2.1 o.2.2) (some (.int o.1)) := by
  refine zenterI (own := RX11) (by decide) rfl rfl (Nat.le_of_ble_eq_true rfl) ?_
  intro p e s m args below meth c A ls Q S hA hK hG hl hP hD hS hret0
  have hx := S.1
  have hb := S.2.1
  have ht : ∀ w, w ∈ wsL_law → w.before args s = true := fun w h => S.2.2.2.2 w (List.mem_cons_of_mem _ h)
  have hret : ∀ (r9 : Int32) (a_M_refused : Nat → Int32) (a_M_now : Nat → Int32), (some (r9, a_M_refused, a_M_now) : Option (Int32 × (Nat → Int32) × (Nat → Int32))) = some o → ∀ (H : Heap) (locs : List Loc) (pc : Nat) (ls : Array Slot), va_P D vwCl (ws_X11_due cI cJ cZ cA q_M q_M_refused q_M_now u_M_images u_M_kept u_M_text u_M_size u_M_sign u_M_manyAbove u_M_manyBelow u_M_above u_M_below u_M_at u_M_begin u_M_kind u_M_value u_M_read u_M_acts u_M_act u_M_waits u_M_wait u_M_held u_M_place u_M_heap u_M_clocks u_M_counts u_M_talking u_M_most u_M_hasA u_M_hasB u_M_talks u_M_big a_M_refused a_M_now) H → va_S A s.heap H locs → decode cX11_due pc = .ok (.ireturn, 1) → W p l e rm_X11_due s m args below meth c H locs 0 0 Q (F0 m pc ls [.int r9]) := by
    intro r9 a_M_refused a_M_now he; cases he; exact hret0
  have hl : lv_has ls 5 [(0, .ref q_M), (1, .int x1), (2, .int x2), (3, .int x3)] := hl
  have B38 : ∀ (a_M_refused : Nat → Int32) (a_M_now : Nat → Int32) (H : Heap) (locs : List Loc) (ls : Array Slot) (hl : lv_has ls 5 [(0, .ref q_M)]) (hP : va_P D vwCl (ws_X11_due cI cJ cZ cA q_M q_M_refused q_M_now u_M_images u_M_kept u_M_text u_M_size u_M_sign u_M_manyAbove u_M_manyBelow u_M_above u_M_below u_M_at u_M_begin u_M_kind u_M_value u_M_read u_M_acts u_M_act u_M_waits u_M_wait u_M_held u_M_place u_M_heap u_M_clocks u_M_counts u_M_talking u_M_most u_M_hasA u_M_hasB u_M_talks u_M_big a_M_refused a_M_now) H) (hD : va_D A (ws_X11_due cI cJ cZ cA q_M q_M_refused q_M_now u_M_images u_M_kept u_M_text u_M_size u_M_sign u_M_manyAbove u_M_manyBelow u_M_above u_M_below u_M_at u_M_begin u_M_kind u_M_value u_M_read u_M_acts u_M_act u_M_waits u_M_wait u_M_held u_M_place u_M_heap u_M_clocks u_M_counts u_M_talking u_M_most u_M_hasA u_M_hasB u_M_talks u_M_big a_M_refused a_M_now)) (hS : va_S A s.heap H locs), g_X11_due_38 x1 x2 x3 a_M_refused a_M_now = some o → W p l e rm_X11_due s m args below meth c H locs 0 0 Q (F0 m 38 ls []) := by
    intro  a_M_refused a_M_now H locs ls hl hP hD hS hg
    refine lv_aload_n hx hb dX11_due_38 rfl (lv_at hl 0 rfl) ?_
    refine lv_bipush (v := (-2)) hx hb dX11_due_39 (by decide) ?_
    obtain ⟨v3, hc4, hg⟩ := zbd hg
    refine zcallV (rest := []) S (c_X11_refuse l D cI cJ cZ cA ga q_M q_M_refused (.ref q_M_now) u_M_images u_M_kept u_M_text u_M_size u_M_sign u_M_manyAbove u_M_manyBelow u_M_above u_M_below u_M_at u_M_begin u_M_kind u_M_value u_M_read u_M_acts u_M_act u_M_waits u_M_wait u_M_held u_M_place u_M_heap u_M_clocks u_M_counts u_M_talking u_M_most u_M_hasA u_M_hasB u_M_talks u_M_big a_M_refused (-2) v3 hc4) (zgV zw_223 zw_224 zw_225 zw_5 zw_226) rfl hd_X11_refuse ⟨rfl, rfl⟩ ⟨Nat.le_of_ble_eq_true rfl, Nat.le_of_ble_eq_true rfl⟩ 0 11 rfl rfl rfl hl.1 rfl (Nat.le_of_ble_eq_true rfl) dX11_due_41 hP hD hS hA hK hG (isC := [0, 1]) rfl rfl rfl (w2 := (ws_X11_due cI cJ cZ cA q_M q_M_refused q_M_now u_M_images u_M_kept u_M_text u_M_size u_M_sign u_M_manyAbove u_M_manyBelow u_M_above u_M_below u_M_at u_M_begin u_M_kind u_M_value u_M_read u_M_acts u_M_act u_M_waits u_M_wait u_M_held u_M_place u_M_heap u_M_clocks u_M_counts u_M_talking u_M_most u_M_hasA u_M_hasB u_M_talks u_M_big v3.2 a_M_now)) rfl (st1 := [.int v3.1]) rfl (fun H locs hP hD hS => ?_)
    exact hret v3.1 v3.2 a_M_now hg _ _ _ _ hP hS dX11_due_44
  refine lv_iload_n hx hb dX11_due_0 rfl (lv_at hl 1 rfl) ?_
  refine lv_i2l hx hb dX11_due_1 rfl ?_
  refine lv_lconst (v := 0) hx hb dX11_due_2 (by decide) ?_
  refine lv_ldc2 (v := 99) hx hb S.2.2.2.1 (ht _ zw_270) dX11_due_3 ?_
  obtain ⟨v1, hc2, hg⟩ := zbd hg
  refine zcallS (rest := []) S (c_X11_in l D cI cJ cZ cA ga x1.toInt64 (0 : Int64) (99 : Int64) v1 hc2) (zgS zw_220 zw_221 zw_5 zw_222) rfl hd_X11_in ⟨rfl, rfl⟩ ⟨Nat.le_of_ble_eq_true rfl, Nat.le_of_ble_eq_true rfl⟩ rfl hl.1 rfl (Nat.le_of_ble_eq_true rfl) dX11_due_6 hP hD hS hA hK hG (isC := []) rfl rfl rfl (w2 := (ws_X11_due cI cJ cZ cA q_M q_M_refused q_M_now u_M_images u_M_kept u_M_text u_M_size u_M_sign u_M_manyAbove u_M_manyBelow u_M_above u_M_below u_M_at u_M_begin u_M_kind u_M_value u_M_read u_M_acts u_M_act u_M_waits u_M_wait u_M_held u_M_place u_M_heap u_M_clocks u_M_counts u_M_talking u_M_most u_M_hasA u_M_hasB u_M_talks u_M_big a_M_refused a_M_now)) rfl (st1 := [.int v1]) rfl (fun H locs hP hD hS => ?_)
  refine lv_if_eq (tgt := 38) hx hb dX11_due_9 (by decide) (fun h9 => ?_) (fun h9 => ?_)
  · have hg := zp hg h9
    exact B38 a_M_refused a_M_now _ _ _ (lv_sub hl [0] rfl) hP hD hS hg
  · have hg := zn hg h9
    refine lv_iload_n hx hb dX11_due_12 rfl (lv_at hl 2 rfl) ?_
    refine lv_i2l hx hb dX11_due_13 rfl ?_
    refine lv_lconst (v := 0) hx hb dX11_due_14 (by decide) ?_
    refine lv_ldc2 (v := 99) hx hb S.2.2.2.1 (ht _ zw_270) dX11_due_15 ?_
    obtain ⟨v5, hc6, hg⟩ := zbd hg
    refine zcallS (rest := []) S (c_X11_in l D cI cJ cZ cA ga x2.toInt64 (0 : Int64) (99 : Int64) v5 hc6) (zgS zw_220 zw_221 zw_5 zw_222) rfl hd_X11_in ⟨rfl, rfl⟩ ⟨Nat.le_of_ble_eq_true rfl, Nat.le_of_ble_eq_true rfl⟩ rfl hl.1 rfl (Nat.le_of_ble_eq_true rfl) dX11_due_18 hP hD hS hA hK hG (isC := []) rfl rfl rfl (w2 := (ws_X11_due cI cJ cZ cA q_M q_M_refused q_M_now u_M_images u_M_kept u_M_text u_M_size u_M_sign u_M_manyAbove u_M_manyBelow u_M_above u_M_below u_M_at u_M_begin u_M_kind u_M_value u_M_read u_M_acts u_M_act u_M_waits u_M_wait u_M_held u_M_place u_M_heap u_M_clocks u_M_counts u_M_talking u_M_most u_M_hasA u_M_hasB u_M_talks u_M_big a_M_refused a_M_now)) rfl (st1 := [.int v5]) rfl (fun H locs hP hD hS => ?_)
    refine lv_if_eq (tgt := 38) hx hb dX11_due_21 (by decide) (fun h21 => ?_) (fun h21 => ?_)
    · have hg := zp hg h21
      exact B38 a_M_refused a_M_now _ _ _ (lv_sub hl [0] rfl) hP hD hS hg
    · have hg := zn hg h21
      refine lv_iload_n hx hb dX11_due_24 rfl (lv_at hl 3 rfl) ?_
      refine lv_i2l hx hb dX11_due_25 rfl ?_
      refine lv_ldc2 (v := (-99)) hx hb S.2.2.2.1 (ht _ zw_271) dX11_due_26 ?_
      refine lv_ldc2 (v := 99) hx hb S.2.2.2.1 (ht _ zw_270) dX11_due_29 ?_
      obtain ⟨v7, hc8, hg⟩ := zbd hg
      refine zcallS (rest := []) S (c_X11_in l D cI cJ cZ cA ga x3.toInt64 (-99 : Int64) (99 : Int64) v7 hc8) (zgS zw_220 zw_221 zw_5 zw_222) rfl hd_X11_in ⟨rfl, rfl⟩ ⟨Nat.le_of_ble_eq_true rfl, Nat.le_of_ble_eq_true rfl⟩ rfl hl.1 rfl (Nat.le_of_ble_eq_true rfl) dX11_due_32 hP hD hS hA hK hG (isC := []) rfl rfl rfl (w2 := (ws_X11_due cI cJ cZ cA q_M q_M_refused q_M_now u_M_images u_M_kept u_M_text u_M_size u_M_sign u_M_manyAbove u_M_manyBelow u_M_above u_M_below u_M_at u_M_begin u_M_kind u_M_value u_M_read u_M_acts u_M_act u_M_waits u_M_wait u_M_held u_M_place u_M_heap u_M_clocks u_M_counts u_M_talking u_M_most u_M_hasA u_M_hasB u_M_talks u_M_big a_M_refused a_M_now)) rfl (st1 := [.int v7]) rfl (fun H locs hP hD hS => ?_)
      refine lv_if_ne (tgt := 45) hx hb dX11_due_35 (by decide) (fun h35 => ?_) (fun h35 => ?_)
      · have hg := zn hg h35
        refine lv_aload_n hx hb dX11_due_45 rfl (lv_at hl 0 rfl) ?_
        refine zget (C := RX11) (T := TX11) (N := 31) S hK hP 0 rfl rfl 0 (Nat.le_of_ble_eq_true rfl) zf_11 zw_149 rfl dX11_due_46 ?_
        refine lv_iconst (v := 5) hx hb dX11_due_49 (by decide) ?_
        refine ziald hx hb hK hP 2 0 rfl rfl (j := 5) (zin (by decide)) (by decide) dX11_due_50 ?_
        refine lv_bipush (v := 8) hx hb dX11_due_51 (by decide) ?_
        refine lv_icmp_ne (tgt := 63) hx hb dX11_due_53 (by decide) (fun h53 => ?_) (fun h53 => ?_)
        · have hg := zn hg h53
          refine lv_aload_n hx hb dX11_due_63 rfl (lv_at hl 0 rfl) ?_
          refine zget (C := RX11) (T := TX11) (N := 31) S hK hP 0 rfl rfl 0 (Nat.le_of_ble_eq_true rfl) zf_11 zw_149 rfl dX11_due_64 ?_
          refine lv_iconst (v := 5) hx hb dX11_due_67 (by decide) ?_
          refine ziald hx hb hK hP 2 0 rfl rfl (j := 5) (zin (by decide)) (by decide) dX11_due_68 ?_
          refine lv_istore (lv' := [(4, .int (a_M_now 5)), (0, .ref q_M), (1, .int x1), (2, .int x2), (3, .int x3)]) hx hb dX11_due_69 hl (by decide) rfl (fun ls hl => ?_)
          refine lv_aload_n hx hb dX11_due_71 rfl (lv_at hl 1 rfl) ?_
          refine zget (C := RX11) (T := TX11) (N := 31) S hK hP 0 rfl rfl 0 (Nat.le_of_ble_eq_true rfl) zf_11 zw_149 rfl dX11_due_72 ?_
          refine lv_bipush (v := 71) hx hb dX11_due_75 (by decide) ?_
          refine lv_iload hx hb dX11_due_77 (lv_at hl 0 rfl) ?_
          refine lv_iadd hx hb dX11_due_79 ?_
          refine lv_iload_n hx hb dX11_due_80 rfl (lv_at hl 2 rfl) ?_
          obtain ⟨h9, hg⟩ := zck hg
          refine ziast hx hb hK hP hD hS 2 0 rfl rfl (j := ((71 + (a_M_now 5)).toNatClampNeg)) h9 rfl dX11_due_81 (w2 := (ws_X11_due cI cJ cZ cA q_M q_M_refused q_M_now u_M_images u_M_kept u_M_text u_M_size u_M_sign u_M_manyAbove u_M_manyBelow u_M_above u_M_below u_M_at u_M_begin u_M_kind u_M_value u_M_read u_M_acts u_M_act u_M_waits u_M_wait u_M_held u_M_place u_M_heap u_M_clocks u_M_counts u_M_talking u_M_most u_M_hasA u_M_hasB u_M_talks u_M_big a_M_refused (upd a_M_now ((71 + (a_M_now 5)).toNatClampNeg) x1))) rfl (fun H locs hP hD hS => ?_)
          refine lv_aload_n hx hb dX11_due_82 rfl (lv_at hl 1 rfl) ?_
          refine zget (C := RX11) (T := TX11) (N := 31) S hK hP 0 rfl rfl 0 (Nat.le_of_ble_eq_true rfl) zf_11 zw_149 rfl dX11_due_83 ?_
          refine lv_bipush (v := 79) hx hb dX11_due_86 (by decide) ?_
          refine lv_iload hx hb dX11_due_88 (lv_at hl 0 rfl) ?_
          refine lv_iadd hx hb dX11_due_90 ?_
          refine lv_iload_n hx hb dX11_due_91 rfl (lv_at hl 3 rfl) ?_
          obtain ⟨h10, hg⟩ := zck hg
          refine ziast hx hb hK hP hD hS 2 0 rfl rfl (j := ((79 + (a_M_now 5)).toNatClampNeg)) h10 rfl dX11_due_92 (w2 := (ws_X11_due cI cJ cZ cA q_M q_M_refused q_M_now u_M_images u_M_kept u_M_text u_M_size u_M_sign u_M_manyAbove u_M_manyBelow u_M_above u_M_below u_M_at u_M_begin u_M_kind u_M_value u_M_read u_M_acts u_M_act u_M_waits u_M_wait u_M_held u_M_place u_M_heap u_M_clocks u_M_counts u_M_talking u_M_most u_M_hasA u_M_hasB u_M_talks u_M_big a_M_refused (upd (upd a_M_now ((71 + (a_M_now 5)).toNatClampNeg) x1) ((79 + (a_M_now 5)).toNatClampNeg) x2))) rfl (fun H locs hP hD hS => ?_)
          refine lv_aload_n hx hb dX11_due_93 rfl (lv_at hl 1 rfl) ?_
          refine zget (C := RX11) (T := TX11) (N := 31) S hK hP 0 rfl rfl 0 (Nat.le_of_ble_eq_true rfl) zf_11 zw_149 rfl dX11_due_94 ?_
          refine lv_bipush (v := 87) hx hb dX11_due_97 (by decide) ?_
          refine lv_iload hx hb dX11_due_99 (lv_at hl 0 rfl) ?_
          refine lv_iadd hx hb dX11_due_101 ?_
          refine lv_iload_n hx hb dX11_due_102 rfl (lv_at hl 4 rfl) ?_
          obtain ⟨h11, hg⟩ := zck hg
          refine ziast hx hb hK hP hD hS 2 0 rfl rfl (j := ((87 + (a_M_now 5)).toNatClampNeg)) h11 rfl dX11_due_103 (w2 := (ws_X11_due cI cJ cZ cA q_M q_M_refused q_M_now u_M_images u_M_kept u_M_text u_M_size u_M_sign u_M_manyAbove u_M_manyBelow u_M_above u_M_below u_M_at u_M_begin u_M_kind u_M_value u_M_read u_M_acts u_M_act u_M_waits u_M_wait u_M_held u_M_place u_M_heap u_M_clocks u_M_counts u_M_talking u_M_most u_M_hasA u_M_hasB u_M_talks u_M_big a_M_refused (upd (upd (upd a_M_now ((71 + (a_M_now 5)).toNatClampNeg) x1) ((79 + (a_M_now 5)).toNatClampNeg) x2) ((87 + (a_M_now 5)).toNatClampNeg) x3))) rfl (fun H locs hP hD hS => ?_)
          refine lv_aload_n hx hb dX11_due_104 rfl (lv_at hl 1 rfl) ?_
          refine zget (C := RX11) (T := TX11) (N := 31) S hK hP 0 rfl rfl 0 (Nat.le_of_ble_eq_true rfl) zf_11 zw_149 rfl dX11_due_105 ?_
          refine lv_iconst (v := 5) hx hb dX11_due_108 (by decide) ?_
          refine lv_dup2_11 hx hb dX11_due_109 rfl rfl ?_
          refine ziald hx hb hK hP 2 0 rfl rfl (j := 5) (zin (by decide)) (by decide) dX11_due_110 ?_
          refine lv_iconst (v := 1) hx hb dX11_due_111 (by decide) ?_
          refine lv_iadd hx hb dX11_due_112 ?_
          refine ziast hx hb hK hP hD hS 2 0 rfl rfl (j := 5) (zin (by decide)) (by decide) dX11_due_113 (w2 := (ws_X11_due cI cJ cZ cA q_M q_M_refused q_M_now u_M_images u_M_kept u_M_text u_M_size u_M_sign u_M_manyAbove u_M_manyBelow u_M_above u_M_below u_M_at u_M_begin u_M_kind u_M_value u_M_read u_M_acts u_M_act u_M_waits u_M_wait u_M_held u_M_place u_M_heap u_M_clocks u_M_counts u_M_talking u_M_most u_M_hasA u_M_hasB u_M_talks u_M_big a_M_refused (upd (upd (upd (upd a_M_now ((71 + (a_M_now 5)).toNatClampNeg) x1) ((79 + (a_M_now 5)).toNatClampNeg) x2) ((87 + (a_M_now 5)).toNatClampNeg) x3) 5 (((upd (upd (upd a_M_now ((71 + (a_M_now 5)).toNatClampNeg) x1) ((79 + (a_M_now 5)).toNatClampNeg) x2) ((87 + (a_M_now 5)).toNatClampNeg) x3) 5) + 1)))) rfl (fun H locs hP hD hS => ?_)
          refine lv_iload hx hb dX11_due_114 (lv_at hl 0 rfl) ?_
          exact hret (a_M_now 5) a_M_refused (upd (upd (upd (upd a_M_now ((71 + (a_M_now 5)).toNatClampNeg) x1) ((79 + (a_M_now 5)).toNatClampNeg) x2) ((87 + (a_M_now 5)).toNatClampNeg) x3) 5 (((upd (upd (upd a_M_now ((71 + (a_M_now 5)).toNatClampNeg) x1) ((79 + (a_M_now 5)).toNatClampNeg) x2) ((87 + (a_M_now 5)).toNatClampNeg) x3) 5) + 1)) hg _ _ _ _ hP hS dX11_due_116
        · have hg := zp hg h53
          refine lv_aload_n hx hb dX11_due_56 rfl (lv_at hl 0 rfl) ?_
          refine lv_bipush (v := (-4)) hx hb dX11_due_57 (by decide) ?_
          obtain ⟨v12, hc13, hg⟩ := zbd hg
          refine zcallV (rest := []) S (c_X11_refuse l D cI cJ cZ cA ga q_M q_M_refused (.ref q_M_now) u_M_images u_M_kept u_M_text u_M_size u_M_sign u_M_manyAbove u_M_manyBelow u_M_above u_M_below u_M_at u_M_begin u_M_kind u_M_value u_M_read u_M_acts u_M_act u_M_waits u_M_wait u_M_held u_M_place u_M_heap u_M_clocks u_M_counts u_M_talking u_M_most u_M_hasA u_M_hasB u_M_talks u_M_big a_M_refused (-4) v12 hc13) (zgV zw_223 zw_224 zw_225 zw_5 zw_226) rfl hd_X11_refuse ⟨rfl, rfl⟩ ⟨Nat.le_of_ble_eq_true rfl, Nat.le_of_ble_eq_true rfl⟩ 0 11 rfl rfl rfl hl.1 rfl (Nat.le_of_ble_eq_true rfl) dX11_due_59 hP hD hS hA hK hG (isC := [0, 1]) rfl rfl rfl (w2 := (ws_X11_due cI cJ cZ cA q_M q_M_refused q_M_now u_M_images u_M_kept u_M_text u_M_size u_M_sign u_M_manyAbove u_M_manyBelow u_M_above u_M_below u_M_at u_M_begin u_M_kind u_M_value u_M_read u_M_acts u_M_act u_M_waits u_M_wait u_M_held u_M_place u_M_heap u_M_clocks u_M_counts u_M_talking u_M_most u_M_hasA u_M_hasB u_M_talks u_M_big v12.2 a_M_now)) rfl (st1 := [.int v12.1]) rfl (fun H locs hP hD hS => ?_)
          exact hret v12.1 v12.2 a_M_now hg _ _ _ _ hP hS dX11_due_62
      · have hg := zp hg h35
        exact B38 a_M_refused a_M_now _ _ _ (lv_sub hl [0] rfl) hP hD hS hg

/-! SpokenClockModel.sight(II)I -/
abbrev ws_X11_sight (cI cJ cZ cA : ClassId) (q_M q_M_refused q_M_now : Nat) (u_M_images : Value) (u_M_kept : Value) (u_M_text : Value) (u_M_size : Value) (u_M_sign : Value) (u_M_manyAbove : Value) (u_M_manyBelow : Value) (u_M_above : Value) (u_M_below : Value) (u_M_at : Value) (u_M_begin : Value) (u_M_kind : Value) (u_M_value : Value) (u_M_read : Value) (u_M_acts : Value) (u_M_act : Value) (u_M_waits : Value) (u_M_wait : Value) (u_M_held : Value) (u_M_place : Value) (u_M_heap : Value) (u_M_clocks : Value) (u_M_counts : Value) (u_M_talking : Value) (u_M_most : Value) (u_M_hasA : Value) (u_M_hasB : Value) (u_M_talks : Value) (u_M_big : Value) (a_M_refused : Nat → Int32) (a_M_now : Nat → Int32) : va_W := [(q_M, .inr (11, [.ref q_M_now, u_M_images, u_M_kept, u_M_text, u_M_size, u_M_sign, u_M_manyAbove, u_M_manyBelow, u_M_above, u_M_below, .ref q_M_refused, u_M_at, u_M_begin, u_M_kind, u_M_value, u_M_read, u_M_acts, u_M_act, u_M_waits, u_M_wait, u_M_held, u_M_place, u_M_heap, u_M_clocks, u_M_counts, u_M_talking, u_M_most, u_M_hasA, u_M_hasB, u_M_talks, u_M_big])), (q_M_refused, .inl (cI, 3, .inl a_M_refused)), (q_M_now, .inl (cI, 155, .inl a_M_now))]
abbrev rm_X11_sight : Room := { frames := 1, cells := 0, slots := 0, locals := 25 }
def g_X11_sight_24 (x1 : Int32) (x2 : Int32) (a_M_refused : Nat → Int32) (a_M_now : Nat → Int32) : Option (Int32 × (Nat → Int32) × (Nat → Int32)) :=
  (g_X11_refuse (-2) a_M_refused).bind fun v3 =>
  some (v3.1, v3.2, a_M_now)
def g_X11_sight (x1 : Int32) (x2 : Int32) (a_M_refused : Nat → Int32) (a_M_now : Nat → Int32) : Option (Int32 × (Nat → Int32) × (Nat → Int32)) :=
  (g_X11_in x1.toInt64 (0 : Int64) (240 : Int64)).bind fun v1 =>
  if v1 = 0 then (
    g_X11_sight_24 x1 x2 a_M_refused a_M_now
  ) else (
    (g_X11_in x2.toInt64 (0 : Int64) (999 : Int64)).bind fun v5 =>
    if v5 = 0 then (
      g_X11_sight_24 x1 x2 a_M_refused a_M_now
    ) else (
      if (a_M_now 6) = 10 then (
        (g_X11_refuse (-4) a_M_refused).bind fun v9 =>
        some (v9.1, v9.2, a_M_now)
      ) else (
        if (95 + (a_M_now 6)) < 0 ∨ 155 ≤ (95 + (a_M_now 6)).toNatClampNeg then none else
        if (105 + (a_M_now 6)) < 0 ∨ 155 ≤ (105 + (a_M_now 6)).toNatClampNeg then none else
        some (a_M_now 6, a_M_refused, upd (upd (upd a_M_now ((95 + (a_M_now 6)).toNatClampNeg) x1) ((105 + (a_M_now 6)).toNatClampNeg) x2) 6 (((upd (upd a_M_now ((95 + (a_M_now 6)).toNatClampNeg) x1) ((105 + (a_M_now 6)).toNatClampNeg) x2) 6) + 1))
      )
    )
  )
theorem hd_X11_sight : yX11_sight.cls = RX11 ∧ yX11_sight.cls ≠ "java/lang/invoke/MethodHandle" ∧ yX11_sight.cls ≠ "java/lang/invoke/VarHandle" ∧ (parseMethodDescriptor yX11_sight.desc).map (fun d => d.parameters.length) = some 2 := by decide +kernel
set_option maxHeartbeats 4000000 in
set_option maxRecDepth 100000 in
theorem c_X11_sight (l : Launch) (D : va_G) (cI cJ cZ cA : ClassId) (ga : Nat → Nat) (q_M q_M_refused q_M_now : Nat) (u_M_images : Value) (u_M_kept : Value) (u_M_text : Value) (u_M_size : Value) (u_M_sign : Value) (u_M_manyAbove : Value) (u_M_manyBelow : Value) (u_M_above : Value) (u_M_below : Value) (u_M_at : Value) (u_M_begin : Value) (u_M_kind : Value) (u_M_value : Value) (u_M_read : Value) (u_M_acts : Value) (u_M_act : Value) (u_M_waits : Value) (u_M_wait : Value) (u_M_held : Value) (u_M_place : Value) (u_M_heap : Value) (u_M_clocks : Value) (u_M_counts : Value) (u_M_talking : Value) (u_M_most : Value) (u_M_hasA : Value) (u_M_hasB : Value) (u_M_talks : Value) (u_M_big : Value) (a_M_refused : Nat → Int32) (a_M_now : Nat → Int32) (x1 : Int32) (x2 : Int32) (o : Int32 × (Nat → Int32) × (Nat → Int32)) (hg : g_X11_sight x1 x2 a_M_refused a_M_now = some o) : zM l yX11_sight (Cond.code yX11_sight cX11_sight 4 (some .int) :: wsL_law) rm_X11_sight D (zTy cI cJ cZ cA) ga [.ref q_M, .int x1, .int x2] (ws_X11_sight cI cJ cZ cA q_M q_M_refused q_M_now u_M_images u_M_kept u_M_text u_M_size u_M_sign u_M_manyAbove u_M_manyBelow u_M_above u_M_below u_M_at u_M_begin u_M_kind u_M_value u_M_read u_M_acts u_M_act u_M_waits u_M_wait u_M_held u_M_place u_M_heap u_M_clocks u_M_counts u_M_talking u_M_most u_M_hasA u_M_hasB u_M_talks u_M_big a_M_refused a_M_now) (ws_X11_sight cI cJ cZ cA q_M q_M_refused q_M_now u_M_images u_M_kept u_M_text u_M_size u_M_sign u_M_manyAbove u_M_manyBelow u_M_above u_M_below u_M_at u_M_begin u_M_kind u_M_value u_M_read u_M_acts u_M_act u_M_waits u_M_wait u_M_held u_M_place u_M_heap u_M_clocks u_M_counts u_M_talking u_M_most u_M_hasA u_M_hasB u_M_talks u_M_big o.2.1 o.2.2) (some (.int o.1)) := by
  refine zenterI (own := RX11) (by decide) rfl rfl (Nat.le_of_ble_eq_true rfl) ?_
  intro p e s m args below meth c A ls Q S hA hK hG hl hP hD hS hret0
  have hx := S.1
  have hb := S.2.1
  have ht : ∀ w, w ∈ wsL_law → w.before args s = true := fun w h => S.2.2.2.2 w (List.mem_cons_of_mem _ h)
  have hret : ∀ (r9 : Int32) (a_M_refused : Nat → Int32) (a_M_now : Nat → Int32), (some (r9, a_M_refused, a_M_now) : Option (Int32 × (Nat → Int32) × (Nat → Int32))) = some o → ∀ (H : Heap) (locs : List Loc) (pc : Nat) (ls : Array Slot), va_P D vwCl (ws_X11_sight cI cJ cZ cA q_M q_M_refused q_M_now u_M_images u_M_kept u_M_text u_M_size u_M_sign u_M_manyAbove u_M_manyBelow u_M_above u_M_below u_M_at u_M_begin u_M_kind u_M_value u_M_read u_M_acts u_M_act u_M_waits u_M_wait u_M_held u_M_place u_M_heap u_M_clocks u_M_counts u_M_talking u_M_most u_M_hasA u_M_hasB u_M_talks u_M_big a_M_refused a_M_now) H → va_S A s.heap H locs → decode cX11_sight pc = .ok (.ireturn, 1) → W p l e rm_X11_sight s m args below meth c H locs 0 0 Q (F0 m pc ls [.int r9]) := by
    intro r9 a_M_refused a_M_now he; cases he; exact hret0
  have hl : lv_has ls 4 [(0, .ref q_M), (1, .int x1), (2, .int x2)] := hl
  have B24 : ∀ (a_M_refused : Nat → Int32) (a_M_now : Nat → Int32) (H : Heap) (locs : List Loc) (ls : Array Slot) (hl : lv_has ls 4 [(0, .ref q_M)]) (hP : va_P D vwCl (ws_X11_sight cI cJ cZ cA q_M q_M_refused q_M_now u_M_images u_M_kept u_M_text u_M_size u_M_sign u_M_manyAbove u_M_manyBelow u_M_above u_M_below u_M_at u_M_begin u_M_kind u_M_value u_M_read u_M_acts u_M_act u_M_waits u_M_wait u_M_held u_M_place u_M_heap u_M_clocks u_M_counts u_M_talking u_M_most u_M_hasA u_M_hasB u_M_talks u_M_big a_M_refused a_M_now) H) (hD : va_D A (ws_X11_sight cI cJ cZ cA q_M q_M_refused q_M_now u_M_images u_M_kept u_M_text u_M_size u_M_sign u_M_manyAbove u_M_manyBelow u_M_above u_M_below u_M_at u_M_begin u_M_kind u_M_value u_M_read u_M_acts u_M_act u_M_waits u_M_wait u_M_held u_M_place u_M_heap u_M_clocks u_M_counts u_M_talking u_M_most u_M_hasA u_M_hasB u_M_talks u_M_big a_M_refused a_M_now)) (hS : va_S A s.heap H locs), g_X11_sight_24 x1 x2 a_M_refused a_M_now = some o → W p l e rm_X11_sight s m args below meth c H locs 0 0 Q (F0 m 24 ls []) := by
    intro  a_M_refused a_M_now H locs ls hl hP hD hS hg
    refine lv_aload_n hx hb dX11_sight_24 rfl (lv_at hl 0 rfl) ?_
    refine lv_bipush (v := (-2)) hx hb dX11_sight_25 (by decide) ?_
    obtain ⟨v3, hc4, hg⟩ := zbd hg
    refine zcallV (rest := []) S (c_X11_refuse l D cI cJ cZ cA ga q_M q_M_refused (.ref q_M_now) u_M_images u_M_kept u_M_text u_M_size u_M_sign u_M_manyAbove u_M_manyBelow u_M_above u_M_below u_M_at u_M_begin u_M_kind u_M_value u_M_read u_M_acts u_M_act u_M_waits u_M_wait u_M_held u_M_place u_M_heap u_M_clocks u_M_counts u_M_talking u_M_most u_M_hasA u_M_hasB u_M_talks u_M_big a_M_refused (-2) v3 hc4) (zgV zw_223 zw_224 zw_225 zw_5 zw_226) rfl hd_X11_refuse ⟨rfl, rfl⟩ ⟨Nat.le_of_ble_eq_true rfl, Nat.le_of_ble_eq_true rfl⟩ 0 11 rfl rfl rfl hl.1 rfl (Nat.le_of_ble_eq_true rfl) dX11_sight_27 hP hD hS hA hK hG (isC := [0, 1]) rfl rfl rfl (w2 := (ws_X11_sight cI cJ cZ cA q_M q_M_refused q_M_now u_M_images u_M_kept u_M_text u_M_size u_M_sign u_M_manyAbove u_M_manyBelow u_M_above u_M_below u_M_at u_M_begin u_M_kind u_M_value u_M_read u_M_acts u_M_act u_M_waits u_M_wait u_M_held u_M_place u_M_heap u_M_clocks u_M_counts u_M_talking u_M_most u_M_hasA u_M_hasB u_M_talks u_M_big v3.2 a_M_now)) rfl (st1 := [.int v3.1]) rfl (fun H locs hP hD hS => ?_)
    exact hret v3.1 v3.2 a_M_now hg _ _ _ _ hP hS dX11_sight_30
  refine lv_iload_n hx hb dX11_sight_0 rfl (lv_at hl 1 rfl) ?_
  refine lv_i2l hx hb dX11_sight_1 rfl ?_
  refine lv_lconst (v := 0) hx hb dX11_sight_2 (by decide) ?_
  refine lv_ldc2 (v := 240) hx hb S.2.2.2.1 (ht _ zw_219) dX11_sight_3 ?_
  obtain ⟨v1, hc2, hg⟩ := zbd hg
  refine zcallS (rest := []) S (c_X11_in l D cI cJ cZ cA ga x1.toInt64 (0 : Int64) (240 : Int64) v1 hc2) (zgS zw_220 zw_221 zw_5 zw_222) rfl hd_X11_in ⟨rfl, rfl⟩ ⟨Nat.le_of_ble_eq_true rfl, Nat.le_of_ble_eq_true rfl⟩ rfl hl.1 rfl (Nat.le_of_ble_eq_true rfl) dX11_sight_6 hP hD hS hA hK hG (isC := []) rfl rfl rfl (w2 := (ws_X11_sight cI cJ cZ cA q_M q_M_refused q_M_now u_M_images u_M_kept u_M_text u_M_size u_M_sign u_M_manyAbove u_M_manyBelow u_M_above u_M_below u_M_at u_M_begin u_M_kind u_M_value u_M_read u_M_acts u_M_act u_M_waits u_M_wait u_M_held u_M_place u_M_heap u_M_clocks u_M_counts u_M_talking u_M_most u_M_hasA u_M_hasB u_M_talks u_M_big a_M_refused a_M_now)) rfl (st1 := [.int v1]) rfl (fun H locs hP hD hS => ?_)
  refine lv_if_eq (tgt := 24) hx hb dX11_sight_9 (by decide) (fun h9 => ?_) (fun h9 => ?_)
  · have hg := zp hg h9
    exact B24 a_M_refused a_M_now _ _ _ (lv_sub hl [0] rfl) hP hD hS hg
  · have hg := zn hg h9
    refine lv_iload_n hx hb dX11_sight_12 rfl (lv_at hl 2 rfl) ?_
    refine lv_i2l hx hb dX11_sight_13 rfl ?_
    refine lv_lconst (v := 0) hx hb dX11_sight_14 (by decide) ?_
    refine lv_ldc2 (v := 999) hx hb S.2.2.2.1 (ht _ zw_280) dX11_sight_15 ?_
    obtain ⟨v5, hc6, hg⟩ := zbd hg
    refine zcallS (rest := []) S (c_X11_in l D cI cJ cZ cA ga x2.toInt64 (0 : Int64) (999 : Int64) v5 hc6) (zgS zw_220 zw_221 zw_5 zw_222) rfl hd_X11_in ⟨rfl, rfl⟩ ⟨Nat.le_of_ble_eq_true rfl, Nat.le_of_ble_eq_true rfl⟩ rfl hl.1 rfl (Nat.le_of_ble_eq_true rfl) dX11_sight_18 hP hD hS hA hK hG (isC := []) rfl rfl rfl (w2 := (ws_X11_sight cI cJ cZ cA q_M q_M_refused q_M_now u_M_images u_M_kept u_M_text u_M_size u_M_sign u_M_manyAbove u_M_manyBelow u_M_above u_M_below u_M_at u_M_begin u_M_kind u_M_value u_M_read u_M_acts u_M_act u_M_waits u_M_wait u_M_held u_M_place u_M_heap u_M_clocks u_M_counts u_M_talking u_M_most u_M_hasA u_M_hasB u_M_talks u_M_big a_M_refused a_M_now)) rfl (st1 := [.int v5]) rfl (fun H locs hP hD hS => ?_)
    refine lv_if_ne (tgt := 31) hx hb dX11_sight_21 (by decide) (fun h21 => ?_) (fun h21 => ?_)
    · have hg := zn hg h21
      refine lv_aload_n hx hb dX11_sight_31 rfl (lv_at hl 0 rfl) ?_
      refine zget (C := RX11) (T := TX11) (N := 31) S hK hP 0 rfl rfl 0 (Nat.le_of_ble_eq_true rfl) zf_11 zw_149 rfl dX11_sight_32 ?_
      refine lv_bipush (v := 6) hx hb dX11_sight_35 (by decide) ?_
      refine ziald hx hb hK hP 2 0 rfl rfl (j := 6) (zin (by decide)) (by decide) dX11_sight_37 ?_
      refine lv_bipush (v := 10) hx hb dX11_sight_38 (by decide) ?_
      refine lv_icmp_ne (tgt := 50) hx hb dX11_sight_40 (by decide) (fun h40 => ?_) (fun h40 => ?_)
      · have hg := zn hg h40
        refine lv_aload_n hx hb dX11_sight_50 rfl (lv_at hl 0 rfl) ?_
        refine zget (C := RX11) (T := TX11) (N := 31) S hK hP 0 rfl rfl 0 (Nat.le_of_ble_eq_true rfl) zf_11 zw_149 rfl dX11_sight_51 ?_
        refine lv_bipush (v := 6) hx hb dX11_sight_54 (by decide) ?_
        refine ziald hx hb hK hP 2 0 rfl rfl (j := 6) (zin (by decide)) (by decide) dX11_sight_56 ?_
        refine lv_istore_n (lv' := [(3, .int (a_M_now 6)), (0, .ref q_M), (1, .int x1), (2, .int x2)]) hx hb dX11_sight_57 rfl hl (by decide) rfl (fun ls hl => ?_)
        refine lv_aload_n hx hb dX11_sight_58 rfl (lv_at hl 1 rfl) ?_
        refine zget (C := RX11) (T := TX11) (N := 31) S hK hP 0 rfl rfl 0 (Nat.le_of_ble_eq_true rfl) zf_11 zw_149 rfl dX11_sight_59 ?_
        refine lv_bipush (v := 95) hx hb dX11_sight_62 (by decide) ?_
        refine lv_iload_n hx hb dX11_sight_64 rfl (lv_at hl 0 rfl) ?_
        refine lv_iadd hx hb dX11_sight_65 ?_
        refine lv_iload_n hx hb dX11_sight_66 rfl (lv_at hl 2 rfl) ?_
        obtain ⟨h7, hg⟩ := zck hg
        refine ziast hx hb hK hP hD hS 2 0 rfl rfl (j := ((95 + (a_M_now 6)).toNatClampNeg)) h7 rfl dX11_sight_67 (w2 := (ws_X11_sight cI cJ cZ cA q_M q_M_refused q_M_now u_M_images u_M_kept u_M_text u_M_size u_M_sign u_M_manyAbove u_M_manyBelow u_M_above u_M_below u_M_at u_M_begin u_M_kind u_M_value u_M_read u_M_acts u_M_act u_M_waits u_M_wait u_M_held u_M_place u_M_heap u_M_clocks u_M_counts u_M_talking u_M_most u_M_hasA u_M_hasB u_M_talks u_M_big a_M_refused (upd a_M_now ((95 + (a_M_now 6)).toNatClampNeg) x1))) rfl (fun H locs hP hD hS => ?_)
        refine lv_aload_n hx hb dX11_sight_68 rfl (lv_at hl 1 rfl) ?_
        refine zget (C := RX11) (T := TX11) (N := 31) S hK hP 0 rfl rfl 0 (Nat.le_of_ble_eq_true rfl) zf_11 zw_149 rfl dX11_sight_69 ?_
        refine lv_bipush (v := 105) hx hb dX11_sight_72 (by decide) ?_
        refine lv_iload_n hx hb dX11_sight_74 rfl (lv_at hl 0 rfl) ?_
        refine lv_iadd hx hb dX11_sight_75 ?_
        refine lv_iload_n hx hb dX11_sight_76 rfl (lv_at hl 3 rfl) ?_
        obtain ⟨h8, hg⟩ := zck hg
        refine ziast hx hb hK hP hD hS 2 0 rfl rfl (j := ((105 + (a_M_now 6)).toNatClampNeg)) h8 rfl dX11_sight_77 (w2 := (ws_X11_sight cI cJ cZ cA q_M q_M_refused q_M_now u_M_images u_M_kept u_M_text u_M_size u_M_sign u_M_manyAbove u_M_manyBelow u_M_above u_M_below u_M_at u_M_begin u_M_kind u_M_value u_M_read u_M_acts u_M_act u_M_waits u_M_wait u_M_held u_M_place u_M_heap u_M_clocks u_M_counts u_M_talking u_M_most u_M_hasA u_M_hasB u_M_talks u_M_big a_M_refused (upd (upd a_M_now ((95 + (a_M_now 6)).toNatClampNeg) x1) ((105 + (a_M_now 6)).toNatClampNeg) x2))) rfl (fun H locs hP hD hS => ?_)
        refine lv_aload_n hx hb dX11_sight_78 rfl (lv_at hl 1 rfl) ?_
        refine zget (C := RX11) (T := TX11) (N := 31) S hK hP 0 rfl rfl 0 (Nat.le_of_ble_eq_true rfl) zf_11 zw_149 rfl dX11_sight_79 ?_
        refine lv_bipush (v := 6) hx hb dX11_sight_82 (by decide) ?_
        refine lv_dup2_11 hx hb dX11_sight_84 rfl rfl ?_
        refine ziald hx hb hK hP 2 0 rfl rfl (j := 6) (zin (by decide)) (by decide) dX11_sight_85 ?_
        refine lv_iconst (v := 1) hx hb dX11_sight_86 (by decide) ?_
        refine lv_iadd hx hb dX11_sight_87 ?_
        refine ziast hx hb hK hP hD hS 2 0 rfl rfl (j := 6) (zin (by decide)) (by decide) dX11_sight_88 (w2 := (ws_X11_sight cI cJ cZ cA q_M q_M_refused q_M_now u_M_images u_M_kept u_M_text u_M_size u_M_sign u_M_manyAbove u_M_manyBelow u_M_above u_M_below u_M_at u_M_begin u_M_kind u_M_value u_M_read u_M_acts u_M_act u_M_waits u_M_wait u_M_held u_M_place u_M_heap u_M_clocks u_M_counts u_M_talking u_M_most u_M_hasA u_M_hasB u_M_talks u_M_big a_M_refused (upd (upd (upd a_M_now ((95 + (a_M_now 6)).toNatClampNeg) x1) ((105 + (a_M_now 6)).toNatClampNeg) x2) 6 (((upd (upd a_M_now ((95 + (a_M_now 6)).toNatClampNeg) x1) ((105 + (a_M_now 6)).toNatClampNeg) x2) 6) + 1)))) rfl (fun H locs hP hD hS => ?_)
        refine lv_iload_n hx hb dX11_sight_89 rfl (lv_at hl 0 rfl) ?_
        exact hret (a_M_now 6) a_M_refused (upd (upd (upd a_M_now ((95 + (a_M_now 6)).toNatClampNeg) x1) ((105 + (a_M_now 6)).toNatClampNeg) x2) 6 (((upd (upd a_M_now ((95 + (a_M_now 6)).toNatClampNeg) x1) ((105 + (a_M_now 6)).toNatClampNeg) x2) 6) + 1)) hg _ _ _ _ hP hS dX11_sight_90
      · have hg := zp hg h40
        refine lv_aload_n hx hb dX11_sight_43 rfl (lv_at hl 0 rfl) ?_
        refine lv_bipush (v := (-4)) hx hb dX11_sight_44 (by decide) ?_
        obtain ⟨v9, hc10, hg⟩ := zbd hg
        refine zcallV (rest := []) S (c_X11_refuse l D cI cJ cZ cA ga q_M q_M_refused (.ref q_M_now) u_M_images u_M_kept u_M_text u_M_size u_M_sign u_M_manyAbove u_M_manyBelow u_M_above u_M_below u_M_at u_M_begin u_M_kind u_M_value u_M_read u_M_acts u_M_act u_M_waits u_M_wait u_M_held u_M_place u_M_heap u_M_clocks u_M_counts u_M_talking u_M_most u_M_hasA u_M_hasB u_M_talks u_M_big a_M_refused (-4) v9 hc10) (zgV zw_223 zw_224 zw_225 zw_5 zw_226) rfl hd_X11_refuse ⟨rfl, rfl⟩ ⟨Nat.le_of_ble_eq_true rfl, Nat.le_of_ble_eq_true rfl⟩ 0 11 rfl rfl rfl hl.1 rfl (Nat.le_of_ble_eq_true rfl) dX11_sight_46 hP hD hS hA hK hG (isC := [0, 1]) rfl rfl rfl (w2 := (ws_X11_sight cI cJ cZ cA q_M q_M_refused q_M_now u_M_images u_M_kept u_M_text u_M_size u_M_sign u_M_manyAbove u_M_manyBelow u_M_above u_M_below u_M_at u_M_begin u_M_kind u_M_value u_M_read u_M_acts u_M_act u_M_waits u_M_wait u_M_held u_M_place u_M_heap u_M_clocks u_M_counts u_M_talking u_M_most u_M_hasA u_M_hasB u_M_talks u_M_big v9.2 a_M_now)) rfl (st1 := [.int v9.1]) rfl (fun H locs hP hD hS => ?_)
        exact hret v9.1 v9.2 a_M_now hg _ _ _ _ hP hS dX11_sight_49
    · have hg := zp hg h21
      exact B24 a_M_refused a_M_now _ _ _ (lv_sub hl [0] rfl) hP hD hS hg

/-! SpokenClockModel.clears(I)I -/
abbrev ws_X11_clears (cI cJ cZ cA : ClassId) (q_M q_M_now q_M_refused : Nat) (u_M_images : Value) (u_M_kept : Value) (u_M_text : Value) (u_M_size : Value) (u_M_sign : Value) (u_M_manyAbove : Value) (u_M_manyBelow : Value) (u_M_above : Value) (u_M_below : Value) (u_M_at : Value) (u_M_begin : Value) (u_M_kind : Value) (u_M_value : Value) (u_M_read : Value) (u_M_acts : Value) (u_M_act : Value) (u_M_waits : Value) (u_M_wait : Value) (u_M_held : Value) (u_M_place : Value) (u_M_heap : Value) (u_M_clocks : Value) (u_M_counts : Value) (u_M_talking : Value) (u_M_most : Value) (u_M_hasA : Value) (u_M_hasB : Value) (u_M_talks : Value) (u_M_big : Value) (a_M_now : Nat → Int32) (a_M_refused : Nat → Int32) : va_W := [(q_M, .inr (11, [.ref q_M_now, u_M_images, u_M_kept, u_M_text, u_M_size, u_M_sign, u_M_manyAbove, u_M_manyBelow, u_M_above, u_M_below, .ref q_M_refused, u_M_at, u_M_begin, u_M_kind, u_M_value, u_M_read, u_M_acts, u_M_act, u_M_waits, u_M_wait, u_M_held, u_M_place, u_M_heap, u_M_clocks, u_M_counts, u_M_talking, u_M_most, u_M_hasA, u_M_hasB, u_M_talks, u_M_big])), (q_M_now, .inl (cI, 155, .inl a_M_now)), (q_M_refused, .inl (cI, 3, .inl a_M_refused))]
abbrev rm_X11_clears : Room := { frames := 1, cells := 0, slots := 0, locals := 25 }
def g_X11_clears (x1 : Int32) (a_M_now : Nat → Int32) (a_M_refused : Nat → Int32) : Option (Int32 × (Nat → Int32) × (Nat → Int32)) :=
  (g_X11_in x1.toInt64 (0 : Int64) (2 : Int64)).bind fun v1 =>
  if v1 = 0 then (
    (g_X11_refuse (-2) a_M_refused).bind fun v5 =>
    some (v5.1, a_M_now, v5.2)
  ) else (
    if (4 + x1) < 0 ∨ 155 ≤ (4 + x1).toNatClampNeg then none else
    if (4 + x1) < 0 ∨ 155 ≤ (4 + x1).toNatClampNeg then none else
    some (a_M_now ((4 + x1).toNatClampNeg), upd a_M_now ((4 + x1).toNatClampNeg) 0, a_M_refused)
  )
theorem hd_X11_clears : yX11_clears.cls = RX11 ∧ yX11_clears.cls ≠ "java/lang/invoke/MethodHandle" ∧ yX11_clears.cls ≠ "java/lang/invoke/VarHandle" ∧ (parseMethodDescriptor yX11_clears.desc).map (fun d => d.parameters.length) = some 1 := by decide +kernel
set_option maxHeartbeats 4000000 in
set_option maxRecDepth 100000 in
theorem c_X11_clears (l : Launch) (D : va_G) (cI cJ cZ cA : ClassId) (ga : Nat → Nat) (q_M q_M_now q_M_refused : Nat) (u_M_images : Value) (u_M_kept : Value) (u_M_text : Value) (u_M_size : Value) (u_M_sign : Value) (u_M_manyAbove : Value) (u_M_manyBelow : Value) (u_M_above : Value) (u_M_below : Value) (u_M_at : Value) (u_M_begin : Value) (u_M_kind : Value) (u_M_value : Value) (u_M_read : Value) (u_M_acts : Value) (u_M_act : Value) (u_M_waits : Value) (u_M_wait : Value) (u_M_held : Value) (u_M_place : Value) (u_M_heap : Value) (u_M_clocks : Value) (u_M_counts : Value) (u_M_talking : Value) (u_M_most : Value) (u_M_hasA : Value) (u_M_hasB : Value) (u_M_talks : Value) (u_M_big : Value) (a_M_now : Nat → Int32) (a_M_refused : Nat → Int32) (x1 : Int32) (o : Int32 × (Nat → Int32) × (Nat → Int32)) (hg : g_X11_clears x1 a_M_now a_M_refused = some o) : zM l yX11_clears (Cond.code yX11_clears cX11_clears 3 (some .int) :: wsL_law) rm_X11_clears D (zTy cI cJ cZ cA) ga [.ref q_M, .int x1] (ws_X11_clears cI cJ cZ cA q_M q_M_now q_M_refused u_M_images u_M_kept u_M_text u_M_size u_M_sign u_M_manyAbove u_M_manyBelow u_M_above u_M_below u_M_at u_M_begin u_M_kind u_M_value u_M_read u_M_acts u_M_act u_M_waits u_M_wait u_M_held u_M_place u_M_heap u_M_clocks u_M_counts u_M_talking u_M_most u_M_hasA u_M_hasB u_M_talks u_M_big a_M_now a_M_refused) (ws_X11_clears cI cJ cZ cA q_M q_M_now q_M_refused u_M_images u_M_kept u_M_text u_M_size u_M_sign u_M_manyAbove u_M_manyBelow u_M_above u_M_below u_M_at u_M_begin u_M_kind u_M_value u_M_read u_M_acts u_M_act u_M_waits u_M_wait u_M_held u_M_place u_M_heap u_M_clocks u_M_counts u_M_talking u_M_most u_M_hasA u_M_hasB u_M_talks u_M_big o.2.1 o.2.2) (some (.int o.1)) := by
  refine zenterI (own := RX11) (by decide) rfl rfl (Nat.le_of_ble_eq_true rfl) ?_
  intro p e s m args below meth c A ls Q S hA hK hG hl hP hD hS hret0
  have hx := S.1
  have hb := S.2.1
  have ht : ∀ w, w ∈ wsL_law → w.before args s = true := fun w h => S.2.2.2.2 w (List.mem_cons_of_mem _ h)
  have hret : ∀ (r9 : Int32) (a_M_now : Nat → Int32) (a_M_refused : Nat → Int32), (some (r9, a_M_now, a_M_refused) : Option (Int32 × (Nat → Int32) × (Nat → Int32))) = some o → ∀ (H : Heap) (locs : List Loc) (pc : Nat) (ls : Array Slot), va_P D vwCl (ws_X11_clears cI cJ cZ cA q_M q_M_now q_M_refused u_M_images u_M_kept u_M_text u_M_size u_M_sign u_M_manyAbove u_M_manyBelow u_M_above u_M_below u_M_at u_M_begin u_M_kind u_M_value u_M_read u_M_acts u_M_act u_M_waits u_M_wait u_M_held u_M_place u_M_heap u_M_clocks u_M_counts u_M_talking u_M_most u_M_hasA u_M_hasB u_M_talks u_M_big a_M_now a_M_refused) H → va_S A s.heap H locs → decode cX11_clears pc = .ok (.ireturn, 1) → W p l e rm_X11_clears s m args below meth c H locs 0 0 Q (F0 m pc ls [.int r9]) := by
    intro r9 a_M_now a_M_refused he; cases he; exact hret0
  have hl : lv_has ls 3 [(0, .ref q_M), (1, .int x1)] := hl
  refine lv_iload_n hx hb dX11_clears_0 rfl (lv_at hl 1 rfl) ?_
  refine lv_i2l hx hb dX11_clears_1 rfl ?_
  refine lv_lconst (v := 0) hx hb dX11_clears_2 (by decide) ?_
  refine lv_ldc2 (v := 2) hx hb S.2.2.2.1 (ht _ zw_293) dX11_clears_3 ?_
  obtain ⟨v1, hc2, hg⟩ := zbd hg
  refine zcallS (rest := []) S (c_X11_in l D cI cJ cZ cA ga x1.toInt64 (0 : Int64) (2 : Int64) v1 hc2) (zgS zw_220 zw_221 zw_5 zw_222) rfl hd_X11_in ⟨rfl, rfl⟩ ⟨Nat.le_of_ble_eq_true rfl, Nat.le_of_ble_eq_true rfl⟩ rfl hl.1 rfl (Nat.le_of_ble_eq_true rfl) dX11_clears_6 hP hD hS hA hK hG (isC := []) rfl rfl rfl (w2 := (ws_X11_clears cI cJ cZ cA q_M q_M_now q_M_refused u_M_images u_M_kept u_M_text u_M_size u_M_sign u_M_manyAbove u_M_manyBelow u_M_above u_M_below u_M_at u_M_begin u_M_kind u_M_value u_M_read u_M_acts u_M_act u_M_waits u_M_wait u_M_held u_M_place u_M_heap u_M_clocks u_M_counts u_M_talking u_M_most u_M_hasA u_M_hasB u_M_talks u_M_big a_M_now a_M_refused)) rfl (st1 := [.int v1]) rfl (fun H locs hP hD hS => ?_)
  refine lv_if_ne (tgt := 19) hx hb dX11_clears_9 (by decide) (fun h9 => ?_) (fun h9 => ?_)
  · have hg := zn hg h9
    refine lv_aload_n hx hb dX11_clears_19 rfl (lv_at hl 0 rfl) ?_
    refine zget (C := RX11) (T := TX11) (N := 31) S hK hP 0 rfl rfl 0 (Nat.le_of_ble_eq_true rfl) zf_11 zw_149 rfl dX11_clears_20 ?_
    refine lv_iconst (v := 4) hx hb dX11_clears_23 (by decide) ?_
    refine lv_iload_n hx hb dX11_clears_24 rfl (lv_at hl 1 rfl) ?_
    refine lv_iadd hx hb dX11_clears_25 ?_
    obtain ⟨h3, hg⟩ := zck hg
    refine ziald hx hb hK hP 1 0 rfl rfl (j := ((4 + x1).toNatClampNeg)) h3 rfl dX11_clears_26 ?_
    refine lv_istore_n (lv' := [(2, .int (a_M_now ((4 + x1).toNatClampNeg))), (0, .ref q_M), (1, .int x1)]) hx hb dX11_clears_27 rfl hl (by decide) rfl (fun ls hl => ?_)
    refine lv_aload_n hx hb dX11_clears_28 rfl (lv_at hl 1 rfl) ?_
    refine zget (C := RX11) (T := TX11) (N := 31) S hK hP 0 rfl rfl 0 (Nat.le_of_ble_eq_true rfl) zf_11 zw_149 rfl dX11_clears_29 ?_
    refine lv_iconst (v := 4) hx hb dX11_clears_32 (by decide) ?_
    refine lv_iload_n hx hb dX11_clears_33 rfl (lv_at hl 2 rfl) ?_
    refine lv_iadd hx hb dX11_clears_34 ?_
    refine lv_iconst (v := 0) hx hb dX11_clears_35 (by decide) ?_
    obtain ⟨h4, hg⟩ := zck hg
    refine ziast hx hb hK hP hD hS 1 0 rfl rfl (j := ((4 + x1).toNatClampNeg)) h4 rfl dX11_clears_36 (w2 := (ws_X11_clears cI cJ cZ cA q_M q_M_now q_M_refused u_M_images u_M_kept u_M_text u_M_size u_M_sign u_M_manyAbove u_M_manyBelow u_M_above u_M_below u_M_at u_M_begin u_M_kind u_M_value u_M_read u_M_acts u_M_act u_M_waits u_M_wait u_M_held u_M_place u_M_heap u_M_clocks u_M_counts u_M_talking u_M_most u_M_hasA u_M_hasB u_M_talks u_M_big (upd a_M_now ((4 + x1).toNatClampNeg) 0) a_M_refused)) rfl (fun H locs hP hD hS => ?_)
    refine lv_iload_n hx hb dX11_clears_37 rfl (lv_at hl 0 rfl) ?_
    exact hret (a_M_now ((4 + x1).toNatClampNeg)) (upd a_M_now ((4 + x1).toNatClampNeg) 0) a_M_refused hg _ _ _ _ hP hS dX11_clears_38
  · have hg := zp hg h9
    refine lv_aload_n hx hb dX11_clears_12 rfl (lv_at hl 0 rfl) ?_
    refine lv_bipush (v := (-2)) hx hb dX11_clears_13 (by decide) ?_
    obtain ⟨v5, hc6, hg⟩ := zbd hg
    refine zcallV (rest := []) S (c_X11_refuse l D cI cJ cZ cA ga q_M q_M_refused (.ref q_M_now) u_M_images u_M_kept u_M_text u_M_size u_M_sign u_M_manyAbove u_M_manyBelow u_M_above u_M_below u_M_at u_M_begin u_M_kind u_M_value u_M_read u_M_acts u_M_act u_M_waits u_M_wait u_M_held u_M_place u_M_heap u_M_clocks u_M_counts u_M_talking u_M_most u_M_hasA u_M_hasB u_M_talks u_M_big a_M_refused (-2) v5 hc6) (zgV zw_223 zw_224 zw_225 zw_5 zw_226) rfl hd_X11_refuse ⟨rfl, rfl⟩ ⟨Nat.le_of_ble_eq_true rfl, Nat.le_of_ble_eq_true rfl⟩ 0 11 rfl rfl rfl hl.1 rfl (Nat.le_of_ble_eq_true rfl) dX11_clears_15 hP hD hS hA hK hG (isC := [0, 2]) rfl rfl rfl (w2 := (ws_X11_clears cI cJ cZ cA q_M q_M_now q_M_refused u_M_images u_M_kept u_M_text u_M_size u_M_sign u_M_manyAbove u_M_manyBelow u_M_above u_M_below u_M_at u_M_begin u_M_kind u_M_value u_M_read u_M_acts u_M_act u_M_waits u_M_wait u_M_held u_M_place u_M_heap u_M_clocks u_M_counts u_M_talking u_M_most u_M_hasA u_M_hasB u_M_talks u_M_big a_M_now v5.2)) rfl (st1 := [.int v5.1]) rfl (fun H locs hP hD hS => ?_)
    exact hret v5.1 a_M_now v5.2 hg _ _ _ _ hP hS dX11_clears_18

/-! SpokenClockModel.type(JI)I -/
abbrev ws_X11_type (cI cJ cZ cA : ClassId) (q_M q_M_text q_M_refused : Nat) (u_M_now : Value) (u_M_images : Value) (u_M_kept : Value) (u_M_sign : Value) (u_M_manyAbove : Value) (u_M_manyBelow : Value) (u_M_above : Value) (u_M_below : Value) (u_M_at : Value) (u_M_begin : Value) (u_M_kind : Value) (u_M_value : Value) (u_M_read : Value) (u_M_acts : Value) (u_M_act : Value) (u_M_waits : Value) (u_M_wait : Value) (u_M_held : Value) (u_M_place : Value) (u_M_heap : Value) (u_M_clocks : Value) (u_M_counts : Value) (u_M_talking : Value) (u_M_most : Value) (u_M_hasA : Value) (u_M_hasB : Value) (u_M_talks : Value) (u_M_big : Value) (v_M_size : Int32) (a_M_text : Nat → Int32) (a_M_refused : Nat → Int32) : va_W := [(q_M, .inr (11, [u_M_now, u_M_images, u_M_kept, .ref q_M_text, .int v_M_size, u_M_sign, u_M_manyAbove, u_M_manyBelow, u_M_above, u_M_below, .ref q_M_refused, u_M_at, u_M_begin, u_M_kind, u_M_value, u_M_read, u_M_acts, u_M_act, u_M_waits, u_M_wait, u_M_held, u_M_place, u_M_heap, u_M_clocks, u_M_counts, u_M_talking, u_M_most, u_M_hasA, u_M_hasB, u_M_talks, u_M_big])), (q_M_text, .inl (cI, 250, .inl a_M_text)), (q_M_refused, .inl (cI, 3, .inl a_M_refused))]
abbrev rm_X11_type : Room := { frames := 1, cells := 0, slots := 0, locals := 25 }
def g_X11_type_43b (x1 : Int64) (x3 : Int32) (k43 : Int32 → Int32 → (Nat → Int32) → (Nat → Int32) → Option (Int32 × Int32 × (Nat → Int32) × (Nat → Int32))) (x4 : Int32) (v_M_size : Int32) (a_M_text : Nat → Int32) (a_M_refused : Nat → Int32) : Option (Int32 × Int32 × (Nat → Int32) × (Nat → Int32)) :=
  if x4 < 0 then (
    some (v_M_size, v_M_size, a_M_text, a_M_refused)
  ) else (
    if v_M_size < 0 ∨ 250 ≤ v_M_size.toNatClampNeg then none else
    k43 (x4 + (-1)) (v_M_size + 1) (upd a_M_text (v_M_size.toNatClampNeg) (((x1 >>> ((8 * x4).toInt64 &&& 63)) &&& (255 : Int64)).toInt32)) a_M_refused
  )
def g_X11_type_43 (x1 : Int64) (x3 : Int32) : Nat → Int32 → Int32 → (Nat → Int32) → (Nat → Int32) → Option (Int32 × Int32 × (Nat → Int32) × (Nat → Int32))
  | 0, _, _, _, _ => none
  | n + 1, x4, v_M_size, a_M_text, a_M_refused => g_X11_type_43b x1 x3 (g_X11_type_43 x1 x3 n) x4 v_M_size a_M_text a_M_refused
def g_X11_type (x1 : Int64) (x3 : Int32) (v_M_size : Int32) (a_M_text : Nat → Int32) (a_M_refused : Nat → Int32) : Option (Int32 × Int32 × (Nat → Int32) × (Nat → Int32)) :=
  (g_X11_in x3.toInt64 (1 : Int64) (8 : Int64)).bind fun v1 =>
  if v1 = 0 then (
    (g_X11_refuse (-2) a_M_refused).bind fun v6 =>
    some (v6.1, v_M_size, a_M_text, v6.2)
  ) else (
    if (v_M_size + x3) ≤ 250 then (
      g_X11_type_43 x1 x3 zF (x3 - 1) v_M_size a_M_text a_M_refused
    ) else (
      (g_X11_refuse (-4) a_M_refused).bind fun v4 =>
      some (v4.1, v_M_size, a_M_text, v4.2)
    )
  )
theorem hd_X11_type : yX11_type.cls = RX11 ∧ yX11_type.cls ≠ "java/lang/invoke/MethodHandle" ∧ yX11_type.cls ≠ "java/lang/invoke/VarHandle" ∧ (parseMethodDescriptor yX11_type.desc).map (fun d => d.parameters.length) = some 2 := by decide +kernel
set_option maxHeartbeats 4000000 in
set_option maxRecDepth 100000 in
theorem c_X11_type (l : Launch) (D : va_G) (cI cJ cZ cA : ClassId) (ga : Nat → Nat) (q_M q_M_text q_M_refused : Nat) (u_M_now : Value) (u_M_images : Value) (u_M_kept : Value) (u_M_sign : Value) (u_M_manyAbove : Value) (u_M_manyBelow : Value) (u_M_above : Value) (u_M_below : Value) (u_M_at : Value) (u_M_begin : Value) (u_M_kind : Value) (u_M_value : Value) (u_M_read : Value) (u_M_acts : Value) (u_M_act : Value) (u_M_waits : Value) (u_M_wait : Value) (u_M_held : Value) (u_M_place : Value) (u_M_heap : Value) (u_M_clocks : Value) (u_M_counts : Value) (u_M_talking : Value) (u_M_most : Value) (u_M_hasA : Value) (u_M_hasB : Value) (u_M_talks : Value) (u_M_big : Value) (v_M_size : Int32) (a_M_text : Nat → Int32) (a_M_refused : Nat → Int32) (x1 : Int64) (x3 : Int32) (o : Int32 × Int32 × (Nat → Int32) × (Nat → Int32)) (hg : g_X11_type x1 x3 v_M_size a_M_text a_M_refused = some o) : zM l yX11_type (Cond.code yX11_type cX11_type 5 (some .int) :: wsL_law) rm_X11_type D (zTy cI cJ cZ cA) ga [.ref q_M, .long x1, .int x3] (ws_X11_type cI cJ cZ cA q_M q_M_text q_M_refused u_M_now u_M_images u_M_kept u_M_sign u_M_manyAbove u_M_manyBelow u_M_above u_M_below u_M_at u_M_begin u_M_kind u_M_value u_M_read u_M_acts u_M_act u_M_waits u_M_wait u_M_held u_M_place u_M_heap u_M_clocks u_M_counts u_M_talking u_M_most u_M_hasA u_M_hasB u_M_talks u_M_big v_M_size a_M_text a_M_refused) (ws_X11_type cI cJ cZ cA q_M q_M_text q_M_refused u_M_now u_M_images u_M_kept u_M_sign u_M_manyAbove u_M_manyBelow u_M_above u_M_below u_M_at u_M_begin u_M_kind u_M_value u_M_read u_M_acts u_M_act u_M_waits u_M_wait u_M_held u_M_place u_M_heap u_M_clocks u_M_counts u_M_talking u_M_most u_M_hasA u_M_hasB u_M_talks u_M_big o.2.1 o.2.2.1 o.2.2.2) (some (.int o.1)) := by
  refine zenterI (own := RX11) (by decide) rfl rfl (Nat.le_of_ble_eq_true rfl) ?_
  intro p e s m args below meth c A ls Q S hA hK hG hl hP hD hS hret0
  have hx := S.1
  have hb := S.2.1
  have ht : ∀ w, w ∈ wsL_law → w.before args s = true := fun w h => S.2.2.2.2 w (List.mem_cons_of_mem _ h)
  have hret : ∀ (r9 : Int32) (v_M_size : Int32) (a_M_text : Nat → Int32) (a_M_refused : Nat → Int32), (some (r9, v_M_size, a_M_text, a_M_refused) : Option (Int32 × Int32 × (Nat → Int32) × (Nat → Int32))) = some o → ∀ (H : Heap) (locs : List Loc) (pc : Nat) (ls : Array Slot), va_P D vwCl (ws_X11_type cI cJ cZ cA q_M q_M_text q_M_refused u_M_now u_M_images u_M_kept u_M_sign u_M_manyAbove u_M_manyBelow u_M_above u_M_below u_M_at u_M_begin u_M_kind u_M_value u_M_read u_M_acts u_M_act u_M_waits u_M_wait u_M_held u_M_place u_M_heap u_M_clocks u_M_counts u_M_talking u_M_most u_M_hasA u_M_hasB u_M_talks u_M_big v_M_size a_M_text a_M_refused) H → va_S A s.heap H locs → decode cX11_type pc = .ok (.ireturn, 1) → W p l e rm_X11_type s m args below meth c H locs 0 0 Q (F0 m pc ls [.int r9]) := by
    intro r9 v_M_size a_M_text a_M_refused he; cases he; exact hret0
  have hl : lv_has ls 5 [(0, .ref q_M), (1, .long x1), (3, .int x3)] := hl
  have B43 : ∀  (n : Nat) (x4 : Int32) (v_M_size : Int32) (a_M_text : Nat → Int32) (a_M_refused : Nat → Int32) (H : Heap) (locs : List Loc) (ls : Array Slot) (hl : lv_has ls 5 [(0, .ref q_M), (1, .long x1), (4, .int x4)]) (hP : va_P D vwCl (ws_X11_type cI cJ cZ cA q_M q_M_text q_M_refused u_M_now u_M_images u_M_kept u_M_sign u_M_manyAbove u_M_manyBelow u_M_above u_M_below u_M_at u_M_begin u_M_kind u_M_value u_M_read u_M_acts u_M_act u_M_waits u_M_wait u_M_held u_M_place u_M_heap u_M_clocks u_M_counts u_M_talking u_M_most u_M_hasA u_M_hasB u_M_talks u_M_big v_M_size a_M_text a_M_refused) H) (hD : va_D A (ws_X11_type cI cJ cZ cA q_M q_M_text q_M_refused u_M_now u_M_images u_M_kept u_M_sign u_M_manyAbove u_M_manyBelow u_M_above u_M_below u_M_at u_M_begin u_M_kind u_M_value u_M_read u_M_acts u_M_act u_M_waits u_M_wait u_M_held u_M_place u_M_heap u_M_clocks u_M_counts u_M_talking u_M_most u_M_hasA u_M_hasB u_M_talks u_M_big v_M_size a_M_text a_M_refused)) (hS : va_S A s.heap H locs), g_X11_type_43 x1 x3 n x4 v_M_size a_M_text a_M_refused = some o → W p l e rm_X11_type s m args below meth c H locs 0 0 Q (F0 m 43 ls []) := by
    intro  n
    induction n with
    | zero => intro x4 v_M_size a_M_text a_M_refused H locs ls hl hP hD hS hg; exact nomatch (show (none : Option (Int32 × Int32 × (Nat → Int32) × (Nat → Int32))) = some o from hg)
    | succ n ih =>
      intro x4 v_M_size a_M_text a_M_refused H locs ls hl hP hD hS hg
      have hg : g_X11_type_43b x1 x3 (g_X11_type_43 x1 x3 n) x4 v_M_size a_M_text a_M_refused = some o := hg
      refine lv_iload hx hb dX11_type_43 (lv_at hl 2 rfl) ?_
      refine lv_if_lt (tgt := 85) hx hb dX11_type_45 (by decide) (fun h45 => ?_) (fun h45 => ?_)
      · have hg := zp hg h45
        refine lv_aload_n hx hb dX11_type_85 rfl (lv_at hl 0 rfl) ?_
        refine zget (C := RX11) (T := TX11) (N := 31) S hK hP 0 rfl rfl 4 (Nat.le_of_ble_eq_true rfl) zf_11 zw_308 rfl dX11_type_86 ?_
        exact hret v_M_size v_M_size a_M_text a_M_refused hg _ _ _ _ hP hS dX11_type_89
      · have hg := zn hg h45
        refine lv_aload_n hx hb dX11_type_48 rfl (lv_at hl 0 rfl) ?_
        refine zget (C := RX11) (T := TX11) (N := 31) S hK hP 0 rfl rfl 3 (Nat.le_of_ble_eq_true rfl) zf_11 zw_152 rfl dX11_type_49 ?_
        refine lv_aload_n hx hb dX11_type_52 rfl (lv_at hl 0 rfl) ?_
        refine zget (C := RX11) (T := TX11) (N := 31) S hK hP 0 rfl rfl 4 (Nat.le_of_ble_eq_true rfl) zf_11 zw_308 rfl dX11_type_53 ?_
        refine lv_lload_n hx hb dX11_type_56 rfl (lv_at hl 1 rfl) ?_
        refine lv_bipush (v := 8) hx hb dX11_type_57 (by decide) ?_
        refine lv_iload hx hb dX11_type_59 (lv_at hl 2 rfl) ?_
        refine lv_imul hx hb dX11_type_61 ?_
        refine lv_lshr hx hb dX11_type_62 rfl ?_
        refine lv_ldc2 (v := 255) hx hb S.2.2.2.1 (ht _ zw_309) dX11_type_63 ?_
        refine lv_land hx hb dX11_type_66 ?_
        refine lv_l2i hx hb dX11_type_67 rfl ?_
        obtain ⟨h3, hg⟩ := zck hg
        refine ziast hx hb hK hP hD hS 1 0 rfl rfl (j := (v_M_size.toNatClampNeg)) h3 rfl dX11_type_68 (w2 := (ws_X11_type cI cJ cZ cA q_M q_M_text q_M_refused u_M_now u_M_images u_M_kept u_M_sign u_M_manyAbove u_M_manyBelow u_M_above u_M_below u_M_at u_M_begin u_M_kind u_M_value u_M_read u_M_acts u_M_act u_M_waits u_M_wait u_M_held u_M_place u_M_heap u_M_clocks u_M_counts u_M_talking u_M_most u_M_hasA u_M_hasB u_M_talks u_M_big v_M_size (upd a_M_text (v_M_size.toNatClampNeg) (((x1 >>> ((8 * x4).toInt64 &&& 63)) &&& (255 : Int64)).toInt32)) a_M_refused)) rfl (fun H locs hP hD hS => ?_)
        refine lv_aload_n hx hb dX11_type_69 rfl (lv_at hl 0 rfl) ?_
        refine lv_dup hx hb dX11_type_70 rfl ?_
        refine zget (C := RX11) (T := TX11) (N := 31) S hK hP 0 rfl rfl 4 (Nat.le_of_ble_eq_true rfl) zf_11 zw_308 rfl dX11_type_71 ?_
        refine lv_iconst (v := 1) hx hb dX11_type_74 (by decide) ?_
        refine lv_iadd hx hb dX11_type_75 ?_
        refine zputf (C := RX11) (T := TX11) (N := 31) (ty := .int) S hK hP hD hS 0 rfl rfl 4 (Nat.le_of_ble_eq_true rfl) zf_11 tyX11 tyX11_ok nmX11 zw_308 rfl (by decide +kernel) rfl rfl (Nat.le_of_ble_eq_true rfl) dX11_type_76 (w2 := (ws_X11_type cI cJ cZ cA q_M q_M_text q_M_refused u_M_now u_M_images u_M_kept u_M_sign u_M_manyAbove u_M_manyBelow u_M_above u_M_below u_M_at u_M_begin u_M_kind u_M_value u_M_read u_M_acts u_M_act u_M_waits u_M_wait u_M_held u_M_place u_M_heap u_M_clocks u_M_counts u_M_talking u_M_most u_M_hasA u_M_hasB u_M_talks u_M_big (v_M_size + 1) (upd a_M_text (v_M_size.toNatClampNeg) (((x1 >>> ((8 * x4).toInt64 &&& 63)) &&& (255 : Int64)).toInt32)) a_M_refused)) rfl (fun H locs hP hD hS => ?_)
        refine lv_iinc (k := 2) (v := x4 + (-1)) (lv' := [(4, .int (x4 + (-1))), (0, .ref q_M), (1, .long x1)]) hx hb dX11_type_79 hl rfl (zinc (by decide)) (by decide) rfl (fun ls hl => ?_)
        refine lv_goto (tgt := 43) hx hb dX11_type_82 (by decide) ?_
        exact ih (x4 + (-1)) (v_M_size + 1) (upd a_M_text (v_M_size.toNatClampNeg) (((x1 >>> ((8 * x4).toInt64 &&& 63)) &&& (255 : Int64)).toInt32)) a_M_refused _ _ _ (lv_sub hl [1, 2, 0] rfl) hP hD hS hg
  refine lv_iload_n hx hb dX11_type_0 rfl (lv_at hl 2 rfl) ?_
  refine lv_i2l hx hb dX11_type_1 rfl ?_
  refine lv_lconst (v := 1) hx hb dX11_type_2 (by decide) ?_
  refine lv_ldc2 (v := 8) hx hb S.2.2.2.1 (ht _ zw_307) dX11_type_3 ?_
  obtain ⟨v1, hc2, hg⟩ := zbd hg
  refine zcallS (rest := []) S (c_X11_in l D cI cJ cZ cA ga x3.toInt64 (1 : Int64) (8 : Int64) v1 hc2) (zgS zw_220 zw_221 zw_5 zw_222) rfl hd_X11_in ⟨rfl, rfl⟩ ⟨Nat.le_of_ble_eq_true rfl, Nat.le_of_ble_eq_true rfl⟩ rfl hl.1 rfl (Nat.le_of_ble_eq_true rfl) dX11_type_6 hP hD hS hA hK hG (isC := []) rfl rfl rfl (w2 := (ws_X11_type cI cJ cZ cA q_M q_M_text q_M_refused u_M_now u_M_images u_M_kept u_M_sign u_M_manyAbove u_M_manyBelow u_M_above u_M_below u_M_at u_M_begin u_M_kind u_M_value u_M_read u_M_acts u_M_act u_M_waits u_M_wait u_M_held u_M_place u_M_heap u_M_clocks u_M_counts u_M_talking u_M_most u_M_hasA u_M_hasB u_M_talks u_M_big v_M_size a_M_text a_M_refused)) rfl (st1 := [.int v1]) rfl (fun H locs hP hD hS => ?_)
  refine lv_if_ne (tgt := 19) hx hb dX11_type_9 (by decide) (fun h9 => ?_) (fun h9 => ?_)
  · have hg := zn hg h9
    refine lv_aload_n hx hb dX11_type_19 rfl (lv_at hl 0 rfl) ?_
    refine zget (C := RX11) (T := TX11) (N := 31) S hK hP 0 rfl rfl 4 (Nat.le_of_ble_eq_true rfl) zf_11 zw_308 rfl dX11_type_20 ?_
    refine lv_iload_n hx hb dX11_type_23 rfl (lv_at hl 2 rfl) ?_
    refine lv_iadd hx hb dX11_type_24 ?_
    refine lv_sipush (v := 250) hx hb dX11_type_25 (by decide) ?_
    refine lv_icmp_le (tgt := 38) hx hb dX11_type_28 (by decide) (fun h28 => ?_) (fun h28 => ?_)
    · have hg := zp hg h28
      refine lv_iload_n hx hb dX11_type_38 rfl (lv_at hl 2 rfl) ?_
      refine lv_iconst (v := 1) hx hb dX11_type_39 (by decide) ?_
      refine lv_isub hx hb dX11_type_40 ?_
      refine lv_istore (lv' := [(4, .int (x3 - 1)), (0, .ref q_M), (1, .long x1), (3, .int x3)]) hx hb dX11_type_41 hl (by decide) rfl (fun ls hl => ?_)
      exact B43 zF (x3 - 1) v_M_size a_M_text a_M_refused _ _ _ (lv_sub hl [1, 2, 0] rfl) hP hD hS hg
    · have hg := zn hg h28
      refine lv_aload_n hx hb dX11_type_31 rfl (lv_at hl 0 rfl) ?_
      refine lv_bipush (v := (-4)) hx hb dX11_type_32 (by decide) ?_
      obtain ⟨v4, hc5, hg⟩ := zbd hg
      refine zcallV (rest := []) S (c_X11_refuse l D cI cJ cZ cA ga q_M q_M_refused u_M_now u_M_images u_M_kept (.ref q_M_text) (.int v_M_size) u_M_sign u_M_manyAbove u_M_manyBelow u_M_above u_M_below u_M_at u_M_begin u_M_kind u_M_value u_M_read u_M_acts u_M_act u_M_waits u_M_wait u_M_held u_M_place u_M_heap u_M_clocks u_M_counts u_M_talking u_M_most u_M_hasA u_M_hasB u_M_talks u_M_big a_M_refused (-4) v4 hc5) (zgV zw_223 zw_224 zw_225 zw_5 zw_226) rfl hd_X11_refuse ⟨rfl, rfl⟩ ⟨Nat.le_of_ble_eq_true rfl, Nat.le_of_ble_eq_true rfl⟩ 0 11 rfl rfl rfl hl.1 rfl (Nat.le_of_ble_eq_true rfl) dX11_type_34 hP hD hS hA hK hG (isC := [0, 2]) rfl rfl rfl (w2 := (ws_X11_type cI cJ cZ cA q_M q_M_text q_M_refused u_M_now u_M_images u_M_kept u_M_sign u_M_manyAbove u_M_manyBelow u_M_above u_M_below u_M_at u_M_begin u_M_kind u_M_value u_M_read u_M_acts u_M_act u_M_waits u_M_wait u_M_held u_M_place u_M_heap u_M_clocks u_M_counts u_M_talking u_M_most u_M_hasA u_M_hasB u_M_talks u_M_big v_M_size a_M_text v4.2)) rfl (st1 := [.int v4.1]) rfl (fun H locs hP hD hS => ?_)
      exact hret v4.1 v_M_size a_M_text v4.2 hg _ _ _ _ hP hS dX11_type_37
  · have hg := zp hg h9
    refine lv_aload_n hx hb dX11_type_12 rfl (lv_at hl 0 rfl) ?_
    refine lv_bipush (v := (-2)) hx hb dX11_type_13 (by decide) ?_
    obtain ⟨v6, hc7, hg⟩ := zbd hg
    refine zcallV (rest := []) S (c_X11_refuse l D cI cJ cZ cA ga q_M q_M_refused u_M_now u_M_images u_M_kept (.ref q_M_text) (.int v_M_size) u_M_sign u_M_manyAbove u_M_manyBelow u_M_above u_M_below u_M_at u_M_begin u_M_kind u_M_value u_M_read u_M_acts u_M_act u_M_waits u_M_wait u_M_held u_M_place u_M_heap u_M_clocks u_M_counts u_M_talking u_M_most u_M_hasA u_M_hasB u_M_talks u_M_big a_M_refused (-2) v6 hc7) (zgV zw_223 zw_224 zw_225 zw_5 zw_226) rfl hd_X11_refuse ⟨rfl, rfl⟩ ⟨Nat.le_of_ble_eq_true rfl, Nat.le_of_ble_eq_true rfl⟩ 0 11 rfl rfl rfl hl.1 rfl (Nat.le_of_ble_eq_true rfl) dX11_type_15 hP hD hS hA hK hG (isC := [0, 2]) rfl rfl rfl (w2 := (ws_X11_type cI cJ cZ cA q_M q_M_text q_M_refused u_M_now u_M_images u_M_kept u_M_sign u_M_manyAbove u_M_manyBelow u_M_above u_M_below u_M_at u_M_begin u_M_kind u_M_value u_M_read u_M_acts u_M_act u_M_waits u_M_wait u_M_held u_M_place u_M_heap u_M_clocks u_M_counts u_M_talking u_M_most u_M_hasA u_M_hasB u_M_talks u_M_big v_M_size a_M_text v6.2)) rfl (st1 := [.int v6.1]) rfl (fun H locs hP hD hS => ?_)
    exact hret v6.1 v_M_size a_M_text v6.2 hg _ _ _ _ hP hS dX11_type_18

/-! SpokenClockModel.wipe()I -/
abbrev ws_X11_wipe (cI cJ cZ cA : ClassId) (q_M : Nat) (u_M_now : Value) (u_M_images : Value) (u_M_kept : Value) (u_M_text : Value) (u_M_sign : Value) (u_M_manyAbove : Value) (u_M_manyBelow : Value) (u_M_above : Value) (u_M_below : Value) (u_M_refused : Value) (u_M_at : Value) (u_M_begin : Value) (u_M_kind : Value) (u_M_value : Value) (u_M_read : Value) (u_M_acts : Value) (u_M_act : Value) (u_M_waits : Value) (u_M_wait : Value) (u_M_held : Value) (u_M_place : Value) (u_M_heap : Value) (u_M_clocks : Value) (u_M_counts : Value) (u_M_talking : Value) (u_M_most : Value) (u_M_hasA : Value) (u_M_hasB : Value) (u_M_talks : Value) (u_M_big : Value) (v_M_size : Int32) : va_W := [(q_M, .inr (11, [u_M_now, u_M_images, u_M_kept, u_M_text, .int v_M_size, u_M_sign, u_M_manyAbove, u_M_manyBelow, u_M_above, u_M_below, u_M_refused, u_M_at, u_M_begin, u_M_kind, u_M_value, u_M_read, u_M_acts, u_M_act, u_M_waits, u_M_wait, u_M_held, u_M_place, u_M_heap, u_M_clocks, u_M_counts, u_M_talking, u_M_most, u_M_hasA, u_M_hasB, u_M_talks, u_M_big]))]
abbrev rm_X11_wipe : Room := { frames := 0, cells := 0, slots := 0, locals := 0 }
def g_X11_wipe (v_M_size : Int32) : Option (Int32 × Int32) :=
  some (v_M_size, 0)
theorem hd_X11_wipe : yX11_wipe.cls = RX11 ∧ yX11_wipe.cls ≠ "java/lang/invoke/MethodHandle" ∧ yX11_wipe.cls ≠ "java/lang/invoke/VarHandle" ∧ (parseMethodDescriptor yX11_wipe.desc).map (fun d => d.parameters.length) = some 0 := by decide +kernel
set_option maxHeartbeats 4000000 in
set_option maxRecDepth 100000 in
theorem c_X11_wipe (l : Launch) (D : va_G) (cI cJ cZ cA : ClassId) (ga : Nat → Nat) (q_M : Nat) (u_M_now : Value) (u_M_images : Value) (u_M_kept : Value) (u_M_text : Value) (u_M_sign : Value) (u_M_manyAbove : Value) (u_M_manyBelow : Value) (u_M_above : Value) (u_M_below : Value) (u_M_refused : Value) (u_M_at : Value) (u_M_begin : Value) (u_M_kind : Value) (u_M_value : Value) (u_M_read : Value) (u_M_acts : Value) (u_M_act : Value) (u_M_waits : Value) (u_M_wait : Value) (u_M_held : Value) (u_M_place : Value) (u_M_heap : Value) (u_M_clocks : Value) (u_M_counts : Value) (u_M_talking : Value) (u_M_most : Value) (u_M_hasA : Value) (u_M_hasB : Value) (u_M_talks : Value) (u_M_big : Value) (v_M_size : Int32) (o : Int32 × Int32) (hg : g_X11_wipe v_M_size = some o) : zM l yX11_wipe (Cond.code yX11_wipe cX11_wipe 2 (some .int) :: wsL_law) rm_X11_wipe D (zTy cI cJ cZ cA) ga [.ref q_M] (ws_X11_wipe cI cJ cZ cA q_M u_M_now u_M_images u_M_kept u_M_text u_M_sign u_M_manyAbove u_M_manyBelow u_M_above u_M_below u_M_refused u_M_at u_M_begin u_M_kind u_M_value u_M_read u_M_acts u_M_act u_M_waits u_M_wait u_M_held u_M_place u_M_heap u_M_clocks u_M_counts u_M_talking u_M_most u_M_hasA u_M_hasB u_M_talks u_M_big v_M_size) (ws_X11_wipe cI cJ cZ cA q_M u_M_now u_M_images u_M_kept u_M_text u_M_sign u_M_manyAbove u_M_manyBelow u_M_above u_M_below u_M_refused u_M_at u_M_begin u_M_kind u_M_value u_M_read u_M_acts u_M_act u_M_waits u_M_wait u_M_held u_M_place u_M_heap u_M_clocks u_M_counts u_M_talking u_M_most u_M_hasA u_M_hasB u_M_talks u_M_big o.2) (some (.int o.1)) := by
  refine zenterI (own := RX11) (by decide) rfl rfl (Nat.le_of_ble_eq_true rfl) ?_
  intro p e s m args below meth c A ls Q S hA hK hG hl hP hD hS hret0
  have hx := S.1
  have hb := S.2.1
  have ht : ∀ w, w ∈ wsL_law → w.before args s = true := fun w h => S.2.2.2.2 w (List.mem_cons_of_mem _ h)
  have hret : ∀ (r9 : Int32) (v_M_size : Int32), (some (r9, v_M_size) : Option (Int32 × Int32)) = some o → ∀ (H : Heap) (locs : List Loc) (pc : Nat) (ls : Array Slot), va_P D vwCl (ws_X11_wipe cI cJ cZ cA q_M u_M_now u_M_images u_M_kept u_M_text u_M_sign u_M_manyAbove u_M_manyBelow u_M_above u_M_below u_M_refused u_M_at u_M_begin u_M_kind u_M_value u_M_read u_M_acts u_M_act u_M_waits u_M_wait u_M_held u_M_place u_M_heap u_M_clocks u_M_counts u_M_talking u_M_most u_M_hasA u_M_hasB u_M_talks u_M_big v_M_size) H → va_S A s.heap H locs → decode cX11_wipe pc = .ok (.ireturn, 1) → W p l e rm_X11_wipe s m args below meth c H locs 0 0 Q (F0 m pc ls [.int r9]) := by
    intro r9 v_M_size he; cases he; exact hret0
  have hl : lv_has ls 2 [(0, .ref q_M)] := hl
  refine lv_aload_n hx hb dX11_wipe_0 rfl (lv_at hl 0 rfl) ?_
  refine zget (C := RX11) (T := TX11) (N := 31) S hK hP 0 rfl rfl 4 (Nat.le_of_ble_eq_true rfl) zf_11 zw_308 rfl dX11_wipe_1 ?_
  refine lv_istore_n (lv' := [(1, .int v_M_size), (0, .ref q_M)]) hx hb dX11_wipe_4 rfl hl (by decide) rfl (fun ls hl => ?_)
  refine lv_aload_n hx hb dX11_wipe_5 rfl (lv_at hl 1 rfl) ?_
  refine lv_iconst (v := 0) hx hb dX11_wipe_6 (by decide) ?_
  refine zputf (C := RX11) (T := TX11) (N := 31) (ty := .int) S hK hP hD hS 0 rfl rfl 4 (Nat.le_of_ble_eq_true rfl) zf_11 tyX11 tyX11_ok nmX11 zw_308 rfl (by decide +kernel) rfl rfl (Nat.le_of_ble_eq_true rfl) dX11_wipe_7 (w2 := (ws_X11_wipe cI cJ cZ cA q_M u_M_now u_M_images u_M_kept u_M_text u_M_sign u_M_manyAbove u_M_manyBelow u_M_above u_M_below u_M_refused u_M_at u_M_begin u_M_kind u_M_value u_M_read u_M_acts u_M_act u_M_waits u_M_wait u_M_held u_M_place u_M_heap u_M_clocks u_M_counts u_M_talking u_M_most u_M_hasA u_M_hasB u_M_talks u_M_big 0)) rfl (fun H locs hP hD hS => ?_)
  refine lv_iload_n hx hb dX11_wipe_10 rfl (lv_at hl 0 rfl) ?_
  exact hret v_M_size 0 hg _ _ _ _ hP hS dX11_wipe_11

/-! SpokenClockModel.isLetter(I)Z -/
abbrev ws_X11_isLetter (cI cJ cZ cA : ClassId) : va_W := []
abbrev rm_X11_isLetter : Room := { frames := 1, cells := 0, slots := 0, locals := 25 }
def g_X11_isLetter (x0 : Int32) : Option (Int32) :=
  (g_X11_in x0.toInt64 (97 : Int64) (122 : Int64)).bind fun v1 =>
  if v1 = 0 ∨ v1 = 1 then
    some (v1)
  else none
theorem hd_X11_isLetter : yX11_isLetter.cls ≠ "java/lang/invoke/MethodHandle" ∧ yX11_isLetter.cls ≠ "java/lang/invoke/VarHandle" ∧ (parseMethodDescriptor yX11_isLetter.desc).map (fun d => d.parameters.length) = some 1 := by decide +kernel
set_option maxHeartbeats 4000000 in
set_option maxRecDepth 100000 in
theorem c_X11_isLetter (l : Launch) (D : va_G) (cI cJ cZ cA : ClassId) (ga : Nat → Nat) (x0 : Int32) (o : Int32) (hg : g_X11_isLetter x0 = some o) : zM l yX11_isLetter (Cond.code yX11_isLetter cX11_isLetter 1 (some .boolean) :: wsL_law) rm_X11_isLetter D (zTy cI cJ cZ cA) ga [.int x0] (ws_X11_isLetter cI cJ cZ cA) (ws_X11_isLetter cI cJ cZ cA) (some (.int o)) := by
  refine zenterN (own := RX11) (by decide) rfl rfl (Nat.le_of_ble_eq_true rfl) ?_
  intro p e s m args below meth c A ls Q S hA hK hG hl hP hD hS hret0
  have hx := S.1
  have hb := S.2.1
  have ht : ∀ w, w ∈ wsL_law → w.before args s = true := fun w h => S.2.2.2.2 w (List.mem_cons_of_mem _ h)
  have hret : ∀ (r9 : Int32), (some (r9) : Option (Int32)) = some o → narrow .boolean (.int r9) = .int r9 → ∀ (H : Heap) (locs : List Loc) (pc : Nat) (ls : Array Slot), va_P D vwCl (ws_X11_isLetter cI cJ cZ cA) H → va_S A s.heap H locs → decode cX11_isLetter pc = .ok (.ireturn, 1) → W p l e rm_X11_isLetter s m args below meth c H locs 0 0 Q (F0 m pc ls [.int r9]) := by
    intro r9 he; cases he; exact hret0
  have hl : lv_has ls 1 [(0, .int x0)] := hl
  refine lv_iload_n hx hb dX11_isLetter_0 rfl (lv_at hl 0 rfl) ?_
  refine lv_i2l hx hb dX11_isLetter_1 rfl ?_
  refine lv_ldc2 (v := 97) hx hb S.2.2.2.1 (ht _ zw_477) dX11_isLetter_2 ?_
  refine lv_ldc2 (v := 122) hx hb S.2.2.2.1 (ht _ zw_478) dX11_isLetter_5 ?_
  obtain ⟨v1, hc2, hg⟩ := zbd hg
  refine zcallS (rest := []) S (c_X11_in l D cI cJ cZ cA ga x0.toInt64 (97 : Int64) (122 : Int64) v1 hc2) (zgS zw_220 zw_221 zw_5 zw_222) rfl hd_X11_in ⟨rfl, rfl⟩ ⟨Nat.le_of_ble_eq_true rfl, Nat.le_of_ble_eq_true rfl⟩ rfl hl.1 rfl (Nat.le_of_ble_eq_true rfl) dX11_isLetter_8 hP hD hS hA hK hG (isC := []) rfl rfl rfl (w2 := (ws_X11_isLetter cI cJ cZ cA)) rfl (st1 := [.int v1]) rfl (fun H locs hP hD hS => ?_)
  obtain ⟨hz01, hg⟩ := zck2 hg
  exact hret v1 hg (zb01 hz01) _ _ _ _ hP hS dX11_isLetter_11

/-! SpokenClockModel.isFigure(I)Z -/
abbrev ws_X11_isFigure (cI cJ cZ cA : ClassId) : va_W := []
abbrev rm_X11_isFigure : Room := { frames := 1, cells := 0, slots := 0, locals := 25 }
def g_X11_isFigure (x0 : Int32) : Option (Int32) :=
  (g_X11_in x0.toInt64 (48 : Int64) (57 : Int64)).bind fun v1 =>
  if v1 = 0 ∨ v1 = 1 then
    some (v1)
  else none
theorem hd_X11_isFigure : yX11_isFigure.cls ≠ "java/lang/invoke/MethodHandle" ∧ yX11_isFigure.cls ≠ "java/lang/invoke/VarHandle" ∧ (parseMethodDescriptor yX11_isFigure.desc).map (fun d => d.parameters.length) = some 1 := by decide +kernel
set_option maxHeartbeats 4000000 in
set_option maxRecDepth 100000 in
theorem c_X11_isFigure (l : Launch) (D : va_G) (cI cJ cZ cA : ClassId) (ga : Nat → Nat) (x0 : Int32) (o : Int32) (hg : g_X11_isFigure x0 = some o) : zM l yX11_isFigure (Cond.code yX11_isFigure cX11_isFigure 1 (some .boolean) :: wsL_law) rm_X11_isFigure D (zTy cI cJ cZ cA) ga [.int x0] (ws_X11_isFigure cI cJ cZ cA) (ws_X11_isFigure cI cJ cZ cA) (some (.int o)) := by
  refine zenterN (own := RX11) (by decide) rfl rfl (Nat.le_of_ble_eq_true rfl) ?_
  intro p e s m args below meth c A ls Q S hA hK hG hl hP hD hS hret0
  have hx := S.1
  have hb := S.2.1
  have ht : ∀ w, w ∈ wsL_law → w.before args s = true := fun w h => S.2.2.2.2 w (List.mem_cons_of_mem _ h)
  have hret : ∀ (r9 : Int32), (some (r9) : Option (Int32)) = some o → narrow .boolean (.int r9) = .int r9 → ∀ (H : Heap) (locs : List Loc) (pc : Nat) (ls : Array Slot), va_P D vwCl (ws_X11_isFigure cI cJ cZ cA) H → va_S A s.heap H locs → decode cX11_isFigure pc = .ok (.ireturn, 1) → W p l e rm_X11_isFigure s m args below meth c H locs 0 0 Q (F0 m pc ls [.int r9]) := by
    intro r9 he; cases he; exact hret0
  have hl : lv_has ls 1 [(0, .int x0)] := hl
  refine lv_iload_n hx hb dX11_isFigure_0 rfl (lv_at hl 0 rfl) ?_
  refine lv_i2l hx hb dX11_isFigure_1 rfl ?_
  refine lv_ldc2 (v := 48) hx hb S.2.2.2.1 (ht _ zw_472) dX11_isFigure_2 ?_
  refine lv_ldc2 (v := 57) hx hb S.2.2.2.1 (ht _ zw_482) dX11_isFigure_5 ?_
  obtain ⟨v1, hc2, hg⟩ := zbd hg
  refine zcallS (rest := []) S (c_X11_in l D cI cJ cZ cA ga x0.toInt64 (48 : Int64) (57 : Int64) v1 hc2) (zgS zw_220 zw_221 zw_5 zw_222) rfl hd_X11_in ⟨rfl, rfl⟩ ⟨Nat.le_of_ble_eq_true rfl, Nat.le_of_ble_eq_true rfl⟩ rfl hl.1 rfl (Nat.le_of_ble_eq_true rfl) dX11_isFigure_8 hP hD hS hA hK hG (isC := []) rfl rfl rfl (w2 := (ws_X11_isFigure cI cJ cZ cA)) rfl (st1 := [.int v1]) rfl (fun H locs hP hD hS => ?_)
  obtain ⟨hz01, hg⟩ := zck2 hg
  exact hret v1 hg (zb01 hz01) _ _ _ _ hP hS dX11_isFigure_11

