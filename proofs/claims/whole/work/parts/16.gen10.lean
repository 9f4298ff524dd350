/-! SpokenClockModel.takesTalk()Z -/
abbrev ws_X11_takesTalk (cI cJ cZ cA : ClassId) (q_M q_M_read q_M_text : Nat) (u_M_now : Value) (u_M_images : Value) (u_M_kept : Value) (u_M_sign : Value) (u_M_manyAbove : Value) (u_M_manyBelow : Value) (u_M_above : Value) (u_M_below : Value) (u_M_refused : Value) (u_M_acts : Value) (u_M_act : Value) (u_M_waits : Value) (u_M_wait : Value) (u_M_held : Value) (u_M_place : Value) (u_M_heap : Value) (u_M_clocks : Value) (u_M_counts : Value) (u_M_talking : Value) (u_M_most : Value) (u_M_hasA : Value) (u_M_hasB : Value) (u_M_talks : Value) (u_M_big : Value) (v_M_size : Int32) (v_M_at : Int32) (v_M_begin : Int32) (v_M_kind : Int32) (v_M_value : Int64) (a_M_read : Nat → Int32) (a_M_text : Nat → Int32) : va_W := [(q_M, .inr (11, [u_M_now, u_M_images, u_M_kept, .ref q_M_text, .int v_M_size, u_M_sign, u_M_manyAbove, u_M_manyBelow, u_M_above, u_M_below, u_M_refused, .int v_M_at, .int v_M_begin, .int v_M_kind, .long v_M_value, .ref q_M_read, u_M_acts, u_M_act, u_M_waits, u_M_wait, u_M_held, u_M_place, u_M_heap, u_M_clocks, u_M_counts, u_M_talking, u_M_most, u_M_hasA, u_M_hasB, u_M_talks, u_M_big])), (q_M_read, .inl (cI, 155, .inl a_M_read)), (q_M_text, .inl (cI, 250, .inl a_M_text))]
abbrev rm_X11_takesTalk : Room := { frames := 4, cells := 0, slots := 0, locals := 88 }
def g_X11_takesTalk (v_M_size : Int32) (a_M_text : Nat → Int32) (v_M_at : Int32) (v_M_begin : Int32) (v_M_kind : Int32) (v_M_value : Int64) (a_M_read : Nat → Int32) : Option (Int32 × Int32 × Int32 × Int32 × Int64 × (Nat → Int32)) :=
  if (a_M_read 4) = 16 then (
    some (0, v_M_at, v_M_begin, v_M_kind, v_M_value, a_M_read)
  ) else (
    (g_X11_takes v_M_size a_M_text 0 ((a_M_read 3) - 1) v_M_at v_M_begin v_M_kind v_M_value).bind fun v1 =>
    if v1.1 = 0 then (
      some (0, v1.2.1, v1.2.2.1, v1.2.2.2.1, v1.2.2.2.2, a_M_read)
    ) else (
      if (23 + (a_M_read 4)) < 0 ∨ 155 ≤ (23 + (a_M_read 4)).toNatClampNeg then none else
      (g_X11_takes v_M_size a_M_text 0 239 v1.2.1 v1.2.2.1 v1.2.2.2.1 v1.2.2.2.2).bind fun v4 =>
      if v4.1 = 0 then (
        some (0, v4.2.1, v4.2.2.1, v4.2.2.2.1, v4.2.2.2.2, upd a_M_read ((23 + (a_M_read 4)).toNatClampNeg) v1.2.2.2.2.toInt32)
      ) else (
        if (39 + (a_M_read 4)) < 0 ∨ 155 ≤ (39 + (a_M_read 4)).toNatClampNeg then none else
        (g_X11_takes v_M_size a_M_text (v4.2.2.2.2.toInt32 + 1) 240 v4.2.1 v4.2.2.1 v4.2.2.2.1 v4.2.2.2.2).bind fun v7 =>
        if v7.1 = 0 then (
          some (0, v7.2.1, v7.2.2.1, v7.2.2.2.1, v7.2.2.2.2, upd (upd a_M_read ((23 + (a_M_read 4)).toNatClampNeg) v1.2.2.2.2.toInt32) ((39 + (a_M_read 4)).toNatClampNeg) v4.2.2.2.2.toInt32)
        ) else (
          if (55 + (a_M_read 4)) < 0 ∨ 155 ≤ (55 + (a_M_read 4)).toNatClampNeg then none else
          (g_X11_stops v_M_size a_M_text v7.2.1 v7.2.2.1 v7.2.2.2.1 v7.2.2.2.2).bind fun v10 =>
          if v10.1 = 0 ∨ v10.1 = 1 then
            some (v10.1, v10.2.1, v10.2.2.1, v10.2.2.2.1, v10.2.2.2.2, upd (upd (upd (upd a_M_read ((23 + (a_M_read 4)).toNatClampNeg) v1.2.2.2.2.toInt32) ((39 + (a_M_read 4)).toNatClampNeg) v4.2.2.2.2.toInt32) ((55 + (a_M_read 4)).toNatClampNeg) v7.2.2.2.2.toInt32) 4 (((upd (upd (upd a_M_read ((23 + (a_M_read 4)).toNatClampNeg) v1.2.2.2.2.toInt32) ((39 + (a_M_read 4)).toNatClampNeg) v4.2.2.2.2.toInt32) ((55 + (a_M_read 4)).toNatClampNeg) v7.2.2.2.2.toInt32) 4) + 1))
          else none
        )
      )
    )
  )
theorem hd_X11_takesTalk : yX11_takesTalk.cls = RX11 ∧ yX11_takesTalk.cls ≠ "java/lang/invoke/MethodHandle" ∧ yX11_takesTalk.cls ≠ "java/lang/invoke/VarHandle" ∧ (parseMethodDescriptor yX11_takesTalk.desc).map (fun d => d.parameters.length) = some 0 := by decide +kernel
set_option maxHeartbeats 4000000 in
set_option maxRecDepth 100000 in
theorem c_X11_takesTalk (l : Launch) (D : va_G) (cI cJ cZ cA : ClassId) (ga : Nat → Nat) (q_M q_M_read q_M_text : Nat) (u_M_now : Value) (u_M_images : Value) (u_M_kept : Value) (u_M_sign : Value) (u_M_manyAbove : Value) (u_M_manyBelow : Value) (u_M_above : Value) (u_M_below : Value) (u_M_refused : Value) (u_M_acts : Value) (u_M_act : Value) (u_M_waits : Value) (u_M_wait : Value) (u_M_held : Value) (u_M_place : Value) (u_M_heap : Value) (u_M_clocks : Value) (u_M_counts : Value) (u_M_talking : Value) (u_M_most : Value) (u_M_hasA : Value) (u_M_hasB : Value) (u_M_talks : Value) (u_M_big : Value) (v_M_size : Int32) (v_M_at : Int32) (v_M_begin : Int32) (v_M_kind : Int32) (v_M_value : Int64) (a_M_read : Nat → Int32) (a_M_text : Nat → Int32) (o : Int32 × Int32 × Int32 × Int32 × Int64 × (Nat → Int32)) (hg : g_X11_takesTalk v_M_size a_M_text v_M_at v_M_begin v_M_kind v_M_value a_M_read = some o) : zM l yX11_takesTalk (Cond.code yX11_takesTalk cX11_takesTalk 2 (some .boolean) :: wsL_law) rm_X11_takesTalk D (zTy cI cJ cZ cA) ga [.ref q_M] (ws_X11_takesTalk cI cJ cZ cA q_M q_M_read q_M_text u_M_now u_M_images u_M_kept u_M_sign u_M_manyAbove u_M_manyBelow u_M_above u_M_below u_M_refused u_M_acts u_M_act u_M_waits u_M_wait u_M_held u_M_place u_M_heap u_M_clocks u_M_counts u_M_talking u_M_most u_M_hasA u_M_hasB u_M_talks u_M_big v_M_size v_M_at v_M_begin v_M_kind v_M_value a_M_read a_M_text) (ws_X11_takesTalk cI cJ cZ cA q_M q_M_read q_M_text u_M_now u_M_images u_M_kept u_M_sign u_M_manyAbove u_M_manyBelow u_M_above u_M_below u_M_refused u_M_acts u_M_act u_M_waits u_M_wait u_M_held u_M_place u_M_heap u_M_clocks u_M_counts u_M_talking u_M_most u_M_hasA u_M_hasB u_M_talks u_M_big v_M_size o.2.1 o.2.2.1 o.2.2.2.1 o.2.2.2.2.1 o.2.2.2.2.2 a_M_text) (some (.int o.1)) := by
  refine zenterN (own := RX11) (by decide) rfl rfl (Nat.le_of_ble_eq_true rfl) ?_
  intro p e s m args below meth c A ls Q S hA hK hG hl hP hD hS hret0
  have hx := S.1
  have hb := S.2.1
  have ht : ∀ w, w ∈ wsL_law → w.before args s = true := fun w h => S.2.2.2.2 w (List.mem_cons_of_mem _ h)
  have hret : ∀ (r9 : Int32) (v_M_at : Int32) (v_M_begin : Int32) (v_M_kind : Int32) (v_M_value : Int64) (a_M_read : Nat → Int32), (some (r9, v_M_at, v_M_begin, v_M_kind, v_M_value, a_M_read) : Option (Int32 × Int32 × Int32 × Int32 × Int64 × (Nat → Int32))) = some o → narrow .boolean (.int r9) = .int r9 → ∀ (H : Heap) (locs : List Loc) (pc : Nat) (ls : Array Slot), va_P D vwCl (ws_X11_takesTalk cI cJ cZ cA q_M q_M_read q_M_text u_M_now u_M_images u_M_kept u_M_sign u_M_manyAbove u_M_manyBelow u_M_above u_M_below u_M_refused u_M_acts u_M_act u_M_waits u_M_wait u_M_held u_M_place u_M_heap u_M_clocks u_M_counts u_M_talking u_M_most u_M_hasA u_M_hasB u_M_talks u_M_big v_M_size v_M_at v_M_begin v_M_kind v_M_value a_M_read a_M_text) H → va_S A s.heap H locs → decode cX11_takesTalk pc = .ok (.ireturn, 1) → W p l e rm_X11_takesTalk s m args below meth c H locs 0 0 Q (F0 m pc ls [.int r9]) := by
    intro r9 v_M_at v_M_begin v_M_kind v_M_value a_M_read he; cases he; exact hret0
  have hl : lv_has ls 2 [(0, .ref q_M)] := hl
  refine lv_aload_n hx hb dX11_takesTalk_0 rfl (lv_at hl 0 rfl) ?_
  refine zget (C := RX11) (T := TX11) (N := 31) S hK hP 0 rfl rfl 15 (Nat.le_of_ble_eq_true rfl) zf_11 zw_157 rfl dX11_takesTalk_1 ?_
  refine lv_iconst (v := 4) hx hb dX11_takesTalk_4 (by decide) ?_
  refine ziald hx hb hK hP 1 0 rfl rfl (j := 4) (zin (by decide)) (by decide) dX11_takesTalk_5 ?_
  refine lv_istore_n (lv' := [(1, .int (a_M_read 4)), (0, .ref q_M)]) hx hb dX11_takesTalk_6 rfl hl (by decide) rfl (fun ls hl => ?_)
  refine lv_iload_n hx hb dX11_takesTalk_7 rfl (lv_at hl 0 rfl) ?_
  refine lv_bipush (v := 16) hx hb dX11_takesTalk_8 (by decide) ?_
  refine lv_icmp_eq (tgt := 29) hx hb dX11_takesTalk_10 (by decide) (fun h10 => ?_) (fun h10 => ?_)
  · have hg := zp hg h10
    refine lv_iconst (v := 0) hx hb dX11_takesTalk_29 (by decide) ?_
    exact hret 0 v_M_at v_M_begin v_M_kind v_M_value a_M_read hg (zb01 (Or.inl rfl)) _ _ _ _ hP hS dX11_takesTalk_30
  · have hg := zn hg h10
    refine lv_aload_n hx hb dX11_takesTalk_13 rfl (lv_at hl 1 rfl) ?_
    refine lv_iconst (v := 0) hx hb dX11_takesTalk_14 (by decide) ?_
    refine lv_aload_n hx hb dX11_takesTalk_15 rfl (lv_at hl 1 rfl) ?_
    refine zget (C := RX11) (T := TX11) (N := 31) S hK hP 0 rfl rfl 15 (Nat.le_of_ble_eq_true rfl) zf_11 zw_157 rfl dX11_takesTalk_16 ?_
    refine lv_iconst (v := 3) hx hb dX11_takesTalk_19 (by decide) ?_
    refine ziald hx hb hK hP 1 0 rfl rfl (j := 3) (zin (by decide)) (by decide) dX11_takesTalk_20 ?_
    refine lv_iconst (v := 1) hx hb dX11_takesTalk_21 (by decide) ?_
    refine lv_isub hx hb dX11_takesTalk_22 ?_
    obtain ⟨v1, hc2, hg⟩ := zbd hg
    refine zcallV (rest := []) S (c_X11_takes l D cI cJ cZ cA ga q_M q_M_text u_M_now u_M_images u_M_kept u_M_sign u_M_manyAbove u_M_manyBelow u_M_above u_M_below u_M_refused (.ref q_M_read) u_M_acts u_M_act u_M_waits u_M_wait u_M_held u_M_place u_M_heap u_M_clocks u_M_counts u_M_talking u_M_most u_M_hasA u_M_hasB u_M_talks u_M_big v_M_size v_M_at v_M_begin v_M_kind v_M_value a_M_text 0 ((a_M_read 3) - 1) v1 hc2) (zgV zw_487 zw_488 zw_489 zw_5 zw_490) rfl hd_X11_takes ⟨rfl, rfl⟩ ⟨Nat.le_of_ble_eq_true rfl, Nat.le_of_ble_eq_true rfl⟩ 0 11 rfl rfl rfl hl.1 rfl (Nat.le_of_ble_eq_true rfl) dX11_takesTalk_23 hP hD hS hA hK hG (isC := [0, 2]) rfl (by decide +kernel) rfl ⟨Nat.zero_le _, Nat.zero_le _⟩ (pl := [some 0, none, some 1]) (nw := 3) rfl (by decide +kernel) (w2 := (ws_X11_takesTalk cI cJ cZ cA q_M q_M_read q_M_text u_M_now u_M_images u_M_kept u_M_sign u_M_manyAbove u_M_manyBelow u_M_above u_M_below u_M_refused u_M_acts u_M_act u_M_waits u_M_wait u_M_held u_M_place u_M_heap u_M_clocks u_M_counts u_M_talking u_M_most u_M_hasA u_M_hasB u_M_talks u_M_big v_M_size v1.2.1 v1.2.2.1 v1.2.2.2.1 v1.2.2.2.2 a_M_read a_M_text)) rfl (st1 := [.int v1.1]) rfl (fun H locs hP hD hS => ?_)
    refine lv_if_ne (tgt := 31) hx hb dX11_takesTalk_26 (by decide) (fun h26 => ?_) (fun h26 => ?_)
    · have hg := zn hg h26
      refine lv_aload_n hx hb dX11_takesTalk_31 rfl (lv_at hl 1 rfl) ?_
      refine zget (C := RX11) (T := TX11) (N := 31) S hK hP 0 rfl rfl 15 (Nat.le_of_ble_eq_true rfl) zf_11 zw_157 rfl dX11_takesTalk_32 ?_
      refine lv_bipush (v := 23) hx hb dX11_takesTalk_35 (by decide) ?_
      refine lv_iload_n hx hb dX11_takesTalk_37 rfl (lv_at hl 0 rfl) ?_
      refine lv_iadd hx hb dX11_takesTalk_38 ?_
      refine lv_aload_n hx hb dX11_takesTalk_39 rfl (lv_at hl 1 rfl) ?_
      refine zget (C := RX11) (T := TX11) (N := 31) S hK hP 0 rfl rfl 14 (Nat.le_of_ble_eq_true rfl) zf_11 zw_456 rfl dX11_takesTalk_40 ?_
      refine lv_l2i hx hb dX11_takesTalk_43 rfl ?_
      obtain ⟨h3, hg⟩ := zck hg
      refine ziast hx hb hK hP hD hS 1 0 rfl rfl (j := ((23 + (a_M_read 4)).toNatClampNeg)) h3 rfl dX11_takesTalk_44 (w2 := (ws_X11_takesTalk cI cJ cZ cA q_M q_M_read q_M_text u_M_now u_M_images u_M_kept u_M_sign u_M_manyAbove u_M_manyBelow u_M_above u_M_below u_M_refused u_M_acts u_M_act u_M_waits u_M_wait u_M_held u_M_place u_M_heap u_M_clocks u_M_counts u_M_talking u_M_most u_M_hasA u_M_hasB u_M_talks u_M_big v_M_size v1.2.1 v1.2.2.1 v1.2.2.2.1 v1.2.2.2.2 (upd a_M_read ((23 + (a_M_read 4)).toNatClampNeg) v1.2.2.2.2.toInt32) a_M_text)) rfl (fun H locs hP hD hS => ?_)
      refine lv_aload_n hx hb dX11_takesTalk_45 rfl (lv_at hl 1 rfl) ?_
      refine lv_iconst (v := 0) hx hb dX11_takesTalk_46 (by decide) ?_
      refine lv_sipush (v := 239) hx hb dX11_takesTalk_47 (by decide) ?_
      obtain ⟨v4, hc5, hg⟩ := zbd hg
      refine zcallV (rest := []) S (c_X11_takes l D cI cJ cZ cA ga q_M q_M_text u_M_now u_M_images u_M_kept u_M_sign u_M_manyAbove u_M_manyBelow u_M_above u_M_below u_M_refused (.ref q_M_read) u_M_acts u_M_act u_M_waits u_M_wait u_M_held u_M_place u_M_heap u_M_clocks u_M_counts u_M_talking u_M_most u_M_hasA u_M_hasB u_M_talks u_M_big v_M_size v1.2.1 v1.2.2.1 v1.2.2.2.1 v1.2.2.2.2 a_M_text 0 239 v4 hc5) (zgV zw_487 zw_488 zw_489 zw_5 zw_490) rfl hd_X11_takes ⟨rfl, rfl⟩ ⟨Nat.le_of_ble_eq_true rfl, Nat.le_of_ble_eq_true rfl⟩ 0 11 rfl rfl rfl hl.1 rfl (Nat.le_of_ble_eq_true rfl) dX11_takesTalk_50 hP hD hS hA hK hG (isC := [0, 2]) rfl (by decide +kernel) rfl ⟨Nat.zero_le _, Nat.zero_le _⟩ (pl := [some 0, none, some 1]) (nw := 3) rfl (by decide +kernel) (w2 := (ws_X11_takesTalk cI cJ cZ cA q_M q_M_read q_M_text u_M_now u_M_images u_M_kept u_M_sign u_M_manyAbove u_M_manyBelow u_M_above u_M_below u_M_refused u_M_acts u_M_act u_M_waits u_M_wait u_M_held u_M_place u_M_heap u_M_clocks u_M_counts u_M_talking u_M_most u_M_hasA u_M_hasB u_M_talks u_M_big v_M_size v4.2.1 v4.2.2.1 v4.2.2.2.1 v4.2.2.2.2 (upd a_M_read ((23 + (a_M_read 4)).toNatClampNeg) v1.2.2.2.2.toInt32) a_M_text)) rfl (st1 := [.int v4.1]) rfl (fun H locs hP hD hS => ?_)
      refine lv_if_ne (tgt := 58) hx hb dX11_takesTalk_53 (by decide) (fun h53 => ?_) (fun h53 => ?_)
      · have hg := zn hg h53
        refine lv_aload_n hx hb dX11_takesTalk_58 rfl (lv_at hl 1 rfl) ?_
        refine zget (C := RX11) (T := TX11) (N := 31) S hK hP 0 rfl rfl 15 (Nat.le_of_ble_eq_true rfl) zf_11 zw_157 rfl dX11_takesTalk_59 ?_
        refine lv_bipush (v := 39) hx hb dX11_takesTalk_62 (by decide) ?_
        refine lv_iload_n hx hb dX11_takesTalk_64 rfl (lv_at hl 0 rfl) ?_
        refine lv_iadd hx hb dX11_takesTalk_65 ?_
        refine lv_aload_n hx hb dX11_takesTalk_66 rfl (lv_at hl 1 rfl) ?_
        refine zget (C := RX11) (T := TX11) (N := 31) S hK hP 0 rfl rfl 14 (Nat.le_of_ble_eq_true rfl) zf_11 zw_456 rfl dX11_takesTalk_67 ?_
        refine lv_l2i hx hb dX11_takesTalk_70 rfl ?_
        obtain ⟨h6, hg⟩ := zck hg
        refine ziast hx hb hK hP hD hS 1 0 rfl rfl (j := ((39 + (a_M_read 4)).toNatClampNeg)) h6 rfl dX11_takesTalk_71 (w2 := (ws_X11_takesTalk cI cJ cZ cA q_M q_M_read q_M_text u_M_now u_M_images u_M_kept u_M_sign u_M_manyAbove u_M_manyBelow u_M_above u_M_below u_M_refused u_M_acts u_M_act u_M_waits u_M_wait u_M_held u_M_place u_M_heap u_M_clocks u_M_counts u_M_talking u_M_most u_M_hasA u_M_hasB u_M_talks u_M_big v_M_size v4.2.1 v4.2.2.1 v4.2.2.2.1 v4.2.2.2.2 (upd (upd a_M_read ((23 + (a_M_read 4)).toNatClampNeg) v1.2.2.2.2.toInt32) ((39 + (a_M_read 4)).toNatClampNeg) v4.2.2.2.2.toInt32) a_M_text)) rfl (fun H locs hP hD hS => ?_)
        refine lv_aload_n hx hb dX11_takesTalk_72 rfl (lv_at hl 1 rfl) ?_
        refine lv_aload_n hx hb dX11_takesTalk_73 rfl (lv_at hl 1 rfl) ?_
        refine zget (C := RX11) (T := TX11) (N := 31) S hK hP 0 rfl rfl 14 (Nat.le_of_ble_eq_true rfl) zf_11 zw_456 rfl dX11_takesTalk_74 ?_
        refine lv_l2i hx hb dX11_takesTalk_77 rfl ?_
        refine lv_iconst (v := 1) hx hb dX11_takesTalk_78 (by decide) ?_
        refine lv_iadd hx hb dX11_takesTalk_79 ?_
        refine lv_sipush (v := 240) hx hb dX11_takesTalk_80 (by decide) ?_
        obtain ⟨v7, hc8, hg⟩ := zbd hg
        refine zcallV (rest := []) S (c_X11_takes l D cI cJ cZ cA ga q_M q_M_text u_M_now u_M_images u_M_kept u_M_sign u_M_manyAbove u_M_manyBelow u_M_above u_M_below u_M_refused (.ref q_M_read) u_M_acts u_M_act u_M_waits u_M_wait u_M_held u_M_place u_M_heap u_M_clocks u_M_counts u_M_talking u_M_most u_M_hasA u_M_hasB u_M_talks u_M_big v_M_size v4.2.1 v4.2.2.1 v4.2.2.2.1 v4.2.2.2.2 a_M_text (v4.2.2.2.2.toInt32 + 1) 240 v7 hc8) (zgV zw_487 zw_488 zw_489 zw_5 zw_490) rfl hd_X11_takes ⟨rfl, rfl⟩ ⟨Nat.le_of_ble_eq_true rfl, Nat.le_of_ble_eq_true rfl⟩ 0 11 rfl rfl rfl hl.1 rfl (Nat.le_of_ble_eq_true rfl) dX11_takesTalk_83 hP hD hS hA hK hG (isC := [0, 2]) rfl (by decide +kernel) rfl ⟨Nat.zero_le _, Nat.zero_le _⟩ (pl := [some 0, none, some 1]) (nw := 3) rfl (by decide +kernel) (w2 := (ws_X11_takesTalk cI cJ cZ cA q_M q_M_read q_M_text u_M_now u_M_images u_M_kept u_M_sign u_M_manyAbove u_M_manyBelow u_M_above u_M_below u_M_refused u_M_acts u_M_act u_M_waits u_M_wait u_M_held u_M_place u_M_heap u_M_clocks u_M_counts u_M_talking u_M_most u_M_hasA u_M_hasB u_M_talks u_M_big v_M_size v7.2.1 v7.2.2.1 v7.2.2.2.1 v7.2.2.2.2 (upd (upd a_M_read ((23 + (a_M_read 4)).toNatClampNeg) v1.2.2.2.2.toInt32) ((39 + (a_M_read 4)).toNatClampNeg) v4.2.2.2.2.toInt32) a_M_text)) rfl (st1 := [.int v7.1]) rfl (fun H locs hP hD hS => ?_)
        refine lv_if_ne (tgt := 91) hx hb dX11_takesTalk_86 (by decide) (fun h86 => ?_) (fun h86 => ?_)
        · have hg := zn hg h86
          refine lv_aload_n hx hb dX11_takesTalk_91 rfl (lv_at hl 1 rfl) ?_
          refine zget (C := RX11) (T := TX11) (N := 31) S hK hP 0 rfl rfl 15 (Nat.le_of_ble_eq_true rfl) zf_11 zw_157 rfl dX11_takesTalk_92 ?_
          refine lv_bipush (v := 55) hx hb dX11_takesTalk_95 (by decide) ?_
          refine lv_iload_n hx hb dX11_takesTalk_97 rfl (lv_at hl 0 rfl) ?_
          refine lv_iadd hx hb dX11_takesTalk_98 ?_
          refine lv_aload_n hx hb dX11_takesTalk_99 rfl (lv_at hl 1 rfl) ?_
          refine zget (C := RX11) (T := TX11) (N := 31) S hK hP 0 rfl rfl 14 (Nat.le_of_ble_eq_true rfl) zf_11 zw_456 rfl dX11_takesTalk_100 ?_
          refine lv_l2i hx hb dX11_takesTalk_103 rfl ?_
          obtain ⟨h9, hg⟩ := zck hg
          refine ziast hx hb hK hP hD hS 1 0 rfl rfl (j := ((55 + (a_M_read 4)).toNatClampNeg)) h9 rfl dX11_takesTalk_104 (w2 := (ws_X11_takesTalk cI cJ cZ cA q_M q_M_read q_M_text u_M_now u_M_images u_M_kept u_M_sign u_M_manyAbove u_M_manyBelow u_M_above u_M_below u_M_refused u_M_acts u_M_act u_M_waits u_M_wait u_M_held u_M_place u_M_heap u_M_clocks u_M_counts u_M_talking u_M_most u_M_hasA u_M_hasB u_M_talks u_M_big v_M_size v7.2.1 v7.2.2.1 v7.2.2.2.1 v7.2.2.2.2 (upd (upd (upd a_M_read ((23 + (a_M_read 4)).toNatClampNeg) v1.2.2.2.2.toInt32) ((39 + (a_M_read 4)).toNatClampNeg) v4.2.2.2.2.toInt32) ((55 + (a_M_read 4)).toNatClampNeg) v7.2.2.2.2.toInt32) a_M_text)) rfl (fun H locs hP hD hS => ?_)
          refine lv_aload_n hx hb dX11_takesTalk_105 rfl (lv_at hl 1 rfl) ?_
          refine zget (C := RX11) (T := TX11) (N := 31) S hK hP 0 rfl rfl 15 (Nat.le_of_ble_eq_true rfl) zf_11 zw_157 rfl dX11_takesTalk_106 ?_
          refine lv_iconst (v := 4) hx hb dX11_takesTalk_109 (by decide) ?_
          refine lv_dup2_11 hx hb dX11_takesTalk_110 rfl rfl ?_
          refine ziald hx hb hK hP 1 0 rfl rfl (j := 4) (zin (by decide)) (by decide) dX11_takesTalk_111 ?_
          refine lv_iconst (v := 1) hx hb dX11_takesTalk_112 (by decide) ?_
          refine lv_iadd hx hb dX11_takesTalk_113 ?_
          refine ziast hx hb hK hP hD hS 1 0 rfl rfl (j := 4) (zin (by decide)) (by decide) dX11_takesTalk_114 (w2 := (ws_X11_takesTalk cI cJ cZ cA q_M q_M_read q_M_text u_M_now u_M_images u_M_kept u_M_sign u_M_manyAbove u_M_manyBelow u_M_above u_M_below u_M_refused u_M_acts u_M_act u_M_waits u_M_wait u_M_held u_M_place u_M_heap u_M_clocks u_M_counts u_M_talking u_M_most u_M_hasA u_M_hasB u_M_talks u_M_big v_M_size v7.2.1 v7.2.2.1 v7.2.2.2.1 v7.2.2.2.2 (upd (upd (upd (upd a_M_read ((23 + (a_M_read 4)).toNatClampNeg) v1.2.2.2.2.toInt32) ((39 + (a_M_read 4)).toNatClampNeg) v4.2.2.2.2.toInt32) ((55 + (a_M_read 4)).toNatClampNeg) v7.2.2.2.2.toInt32) 4 (((upd (upd (upd a_M_read ((23 + (a_M_read 4)).toNatClampNeg) v1.2.2.2.2.toInt32) ((39 + (a_M_read 4)).toNatClampNeg) v4.2.2.2.2.toInt32) ((55 + (a_M_read 4)).toNatClampNeg) v7.2.2.2.2.toInt32) 4) + 1)) a_M_text)) rfl (fun H locs hP hD hS => ?_)
          refine lv_aload_n hx hb dX11_takesTalk_115 rfl (lv_at hl 1 rfl) ?_
          obtain ⟨v10, hc11, hg⟩ := zbd hg
          refine zcallV (rest := []) S (c_X11_stops l D cI cJ cZ cA ga q_M q_M_text u_M_now u_M_images u_M_kept u_M_sign u_M_manyAbove u_M_manyBelow u_M_above u_M_below u_M_refused (.ref q_M_read) u_M_acts u_M_act u_M_waits u_M_wait u_M_held u_M_place u_M_heap u_M_clocks u_M_counts u_M_talking u_M_most u_M_hasA u_M_hasB u_M_talks u_M_big v_M_size v7.2.1 v7.2.2.1 v7.2.2.2.1 v7.2.2.2.2 a_M_text v10 hc11) (zgV zw_491 zw_492 zw_493 zw_5 zw_494) rfl hd_X11_stops ⟨rfl, rfl⟩ ⟨Nat.le_of_ble_eq_true rfl, Nat.le_of_ble_eq_true rfl⟩ 0 11 rfl rfl rfl hl.1 rfl (Nat.le_of_ble_eq_true rfl) dX11_takesTalk_116 hP hD hS hA hK hG (isC := [0, 2]) rfl (by decide +kernel) rfl ⟨Nat.zero_le _, Nat.zero_le _⟩ (pl := [some 0, none, some 1]) (nw := 3) rfl (by decide +kernel) (w2 := (ws_X11_takesTalk cI cJ cZ cA q_M q_M_read q_M_text u_M_now u_M_images u_M_kept u_M_sign u_M_manyAbove u_M_manyBelow u_M_above u_M_below u_M_refused u_M_acts u_M_act u_M_waits u_M_wait u_M_held u_M_place u_M_heap u_M_clocks u_M_counts u_M_talking u_M_most u_M_hasA u_M_hasB u_M_talks u_M_big v_M_size v10.2.1 v10.2.2.1 v10.2.2.2.1 v10.2.2.2.2 (upd (upd (upd (upd a_M_read ((23 + (a_M_read 4)).toNatClampNeg) v1.2.2.2.2.toInt32) ((39 + (a_M_read 4)).toNatClampNeg) v4.2.2.2.2.toInt32) ((55 + (a_M_read 4)).toNatClampNeg) v7.2.2.2.2.toInt32) 4 (((upd (upd (upd a_M_read ((23 + (a_M_read 4)).toNatClampNeg) v1.2.2.2.2.toInt32) ((39 + (a_M_read 4)).toNatClampNeg) v4.2.2.2.2.toInt32) ((55 + (a_M_read 4)).toNatClampNeg) v7.2.2.2.2.toInt32) 4) + 1)) a_M_text)) rfl (st1 := [.int v10.1]) rfl (fun H locs hP hD hS => ?_)
          obtain ⟨hz01, hg⟩ := zck2 hg
          exact hret v10.1 v10.2.1 v10.2.2.1 v10.2.2.2.1 v10.2.2.2.2 (upd (upd (upd (upd a_M_read ((23 + (a_M_read 4)).toNatClampNeg) v1.2.2.2.2.toInt32) ((39 + (a_M_read 4)).toNatClampNeg) v4.2.2.2.2.toInt32) ((55 + (a_M_read 4)).toNatClampNeg) v7.2.2.2.2.toInt32) 4 (((upd (upd (upd a_M_read ((23 + (a_M_read 4)).toNatClampNeg) v1.2.2.2.2.toInt32) ((39 + (a_M_read 4)).toNatClampNeg) v4.2.2.2.2.toInt32) ((55 + (a_M_read 4)).toNatClampNeg) v7.2.2.2.2.toInt32) 4) + 1)) hg (zb01 hz01) _ _ _ _ hP hS dX11_takesTalk_119
        · have hg := zp hg h86
          refine lv_iconst (v := 0) hx hb dX11_takesTalk_89 (by decide) ?_
          exact hret 0 v7.2.1 v7.2.2.1 v7.2.2.2.1 v7.2.2.2.2 (upd (upd a_M_read ((23 + (a_M_read 4)).toNatClampNeg) v1.2.2.2.2.toInt32) ((39 + (a_M_read 4)).toNatClampNeg) v4.2.2.2.2.toInt32) hg (zb01 (Or.inl rfl)) _ _ _ _ hP hS dX11_takesTalk_90
      · have hg := zp hg h53
        refine lv_iconst (v := 0) hx hb dX11_takesTalk_56 (by decide) ?_
        exact hret 0 v4.2.1 v4.2.2.1 v4.2.2.2.1 v4.2.2.2.2 (upd a_M_read ((23 + (a_M_read 4)).toNatClampNeg) v1.2.2.2.2.toInt32) hg (zb01 (Or.inl rfl)) _ _ _ _ hP hS dX11_takesTalk_57
    · have hg := zp hg h26
      refine lv_iconst (v := 0) hx hb dX11_takesTalk_29 (by decide) ?_
      exact hret 0 v1.2.1 v1.2.2.1 v1.2.2.2.1 v1.2.2.2.2 a_M_read hg (zb01 (Or.inl rfl)) _ _ _ _ hP hS dX11_takesTalk_30

/-! SpokenClockModel.takesDue()Z -/
abbrev ws_X11_takesDue (cI cJ cZ cA : ClassId) (q_M q_M_read q_M_text : Nat) (u_M_now : Value) (u_M_images : Value) (u_M_kept : Value) (u_M_sign : Value) (u_M_manyAbove : Value) (u_M_manyBelow : Value) (u_M_above : Value) (u_M_below : Value) (u_M_refused : Value) (u_M_acts : Value) (u_M_act : Value) (u_M_waits : Value) (u_M_wait : Value) (u_M_held : Value) (u_M_place : Value) (u_M_heap : Value) (u_M_clocks : Value) (u_M_counts : Value) (u_M_talking : Value) (u_M_most : Value) (u_M_hasA : Value) (u_M_hasB : Value) (u_M_talks : Value) (u_M_big : Value) (v_M_size : Int32) (v_M_at : Int32) (v_M_begin : Int32) (v_M_kind : Int32) (v_M_value : Int64) (a_M_read : Nat → Int32) (a_M_text : Nat → Int32) : va_W := [(q_M, .inr (11, [u_M_now, u_M_images, u_M_kept, .ref q_M_text, .int v_M_size, u_M_sign, u_M_manyAbove, u_M_manyBelow, u_M_above, u_M_below, u_M_refused, .int v_M_at, .int v_M_begin, .int v_M_kind, .long v_M_value, .ref q_M_read, u_M_acts, u_M_act, u_M_waits, u_M_wait, u_M_held, u_M_place, u_M_heap, u_M_clocks, u_M_counts, u_M_talking, u_M_most, u_M_hasA, u_M_hasB, u_M_talks, u_M_big])), (q_M_read, .inl (cI, 155, .inl a_M_read)), (q_M_text, .inl (cI, 250, .inl a_M_text))]
abbrev rm_X11_takesDue : Room := { frames := 4, cells := 0, slots := 0, locals := 88 }
def g_X11_takesDue_85 (v_M_size : Int32) (a_M_text : Nat → Int32) (x1 : Int32) (x2 : Int32) (v_M_at : Int32) (v_M_begin : Int32) (v_M_kind : Int32) (v_M_value : Int64) (a_M_read : Nat → Int32) : Option (Int32 × Int32 × Int32 × Int32 × Int64 × (Nat → Int32)) :=
  if v_M_kind = 2 then (
    (g_X11_in v_M_value (0 : Int64) (99 : Int64)).bind fun v9 =>
    if v9 = 0 then (
      some (0, v_M_at, v_M_begin, v_M_kind, v_M_value, a_M_read)
    ) else (
      if (87 + x1) < 0 ∨ 155 ≤ (87 + x1).toNatClampNeg then none else
      (g_X11_stops v_M_size a_M_text v_M_at v_M_begin v_M_kind v_M_value).bind fun v12 =>
      if v12.1 = 0 ∨ v12.1 = 1 then
        some (v12.1, v12.2.1, v12.2.2.1, v12.2.2.2.1, v12.2.2.2.2, upd (upd a_M_read ((87 + x1).toNatClampNeg) (x2 * v_M_value.toInt32)) 5 (((upd a_M_read ((87 + x1).toNatClampNeg) (x2 * v_M_value.toInt32)) 5) + 1))
      else none
    )
  ) else (
    some (0, v_M_at, v_M_begin, v_M_kind, v_M_value, a_M_read)
  )
def g_X11_takesDue (v_M_size : Int32) (a_M_text : Nat → Int32) (v_M_at : Int32) (v_M_begin : Int32) (v_M_kind : Int32) (v_M_value : Int64) (a_M_read : Nat → Int32) : Option (Int32 × Int32 × Int32 × Int32 × Int64 × (Nat → Int32)) :=
  if (a_M_read 5) = 8 then (
    some (0, v_M_at, v_M_begin, v_M_kind, v_M_value, a_M_read)
  ) else (
    (g_X11_takes v_M_size a_M_text 0 99 v_M_at v_M_begin v_M_kind v_M_value).bind fun v1 =>
    if v1.1 = 0 then (
      some (0, v1.2.1, v1.2.2.1, v1.2.2.2.1, v1.2.2.2.2, a_M_read)
    ) else (
      if (71 + (a_M_read 5)) < 0 ∨ 155 ≤ (71 + (a_M_read 5)).toNatClampNeg then none else
      (g_X11_takes v_M_size a_M_text 0 99 v1.2.1 v1.2.2.1 v1.2.2.2.1 v1.2.2.2.2).bind fun v4 =>
      if v4.1 = 0 then (
        some (0, v4.2.1, v4.2.2.1, v4.2.2.2.1, v4.2.2.2.2, upd a_M_read ((71 + (a_M_read 5)).toNatClampNeg) v1.2.2.2.2.toInt32)
      ) else (
        if (79 + (a_M_read 5)) < 0 ∨ 155 ≤ (79 + (a_M_read 5)).toNatClampNeg then none else
        (g_X11_next v_M_size a_M_text v4.2.1 v4.2.2.1 v4.2.2.2.1 v4.2.2.2.2).bind fun v7 =>
        if v7.2.2.1 = 3 then (
          (g_X11_next v_M_size a_M_text v7.1 v7.2.1 v7.2.2.1 v7.2.2.2).bind fun v14 =>
          g_X11_takesDue_85 v_M_size a_M_text (a_M_read 5) (-1) v14.1 v14.2.1 v14.2.2.1 v14.2.2.2 (upd (upd a_M_read ((71 + (a_M_read 5)).toNatClampNeg) v1.2.2.2.2.toInt32) ((79 + (a_M_read 5)).toNatClampNeg) v4.2.2.2.2.toInt32)
        ) else (
          g_X11_takesDue_85 v_M_size a_M_text (a_M_read 5) 1 v7.1 v7.2.1 v7.2.2.1 v7.2.2.2 (upd (upd a_M_read ((71 + (a_M_read 5)).toNatClampNeg) v1.2.2.2.2.toInt32) ((79 + (a_M_read 5)).toNatClampNeg) v4.2.2.2.2.toInt32)
        )
      )
    )
  )
theorem hd_X11_takesDue : yX11_takesDue.cls = RX11 ∧ yX11_takesDue.cls ≠ "java/lang/invoke/MethodHandle" ∧ yX11_takesDue.cls ≠ "java/lang/invoke/VarHandle" ∧ (parseMethodDescriptor yX11_takesDue.desc).map (fun d => d.parameters.length) = some 0 := by decide +kernel
set_option maxHeartbeats 4000000 in
set_option maxRecDepth 100000 in
theorem c_X11_takesDue (l : Launch) (D : va_G) (cI cJ cZ cA : ClassId) (ga : Nat → Nat) (q_M q_M_read q_M_text : Nat) (u_M_now : Value) (u_M_images : Value) (u_M_kept : Value) (u_M_sign : Value) (u_M_manyAbove : Value) (u_M_manyBelow : Value) (u_M_above : Value) (u_M_below : Value) (u_M_refused : Value) (u_M_acts : Value) (u_M_act : Value) (u_M_waits : Value) (u_M_wait : Value) (u_M_held : Value) (u_M_place : Value) (u_M_heap : Value) (u_M_clocks : Value) (u_M_counts : Value) (u_M_talking : Value) (u_M_most : Value) (u_M_hasA : Value) (u_M_hasB : Value) (u_M_talks : Value) (u_M_big : Value) (v_M_size : Int32) (v_M_at : Int32) (v_M_begin : Int32) (v_M_kind : Int32) (v_M_value : Int64) (a_M_read : Nat → Int32) (a_M_text : Nat → Int32) (o : Int32 × Int32 × Int32 × Int32 × Int64 × (Nat → Int32)) (hg : g_X11_takesDue v_M_size a_M_text v_M_at v_M_begin v_M_kind v_M_value a_M_read = some o) : zM l yX11_takesDue (Cond.code yX11_takesDue cX11_takesDue 3 (some .boolean) :: wsL_law) rm_X11_takesDue D (zTy cI cJ cZ cA) ga [.ref q_M] (ws_X11_takesDue cI cJ cZ cA q_M q_M_read q_M_text u_M_now u_M_images u_M_kept u_M_sign u_M_manyAbove u_M_manyBelow u_M_above u_M_below u_M_refused u_M_acts u_M_act u_M_waits u_M_wait u_M_held u_M_place u_M_heap u_M_clocks u_M_counts u_M_talking u_M_most u_M_hasA u_M_hasB u_M_talks u_M_big v_M_size v_M_at v_M_begin v_M_kind v_M_value a_M_read a_M_text) (ws_X11_takesDue cI cJ cZ cA q_M q_M_read q_M_text u_M_now u_M_images u_M_kept u_M_sign u_M_manyAbove u_M_manyBelow u_M_above u_M_below u_M_refused u_M_acts u_M_act u_M_waits u_M_wait u_M_held u_M_place u_M_heap u_M_clocks u_M_counts u_M_talking u_M_most u_M_hasA u_M_hasB u_M_talks u_M_big v_M_size o.2.1 o.2.2.1 o.2.2.2.1 o.2.2.2.2.1 o.2.2.2.2.2 a_M_text) (some (.int o.1)) := by
  refine zenterN (own := RX11) (by decide) rfl rfl (Nat.le_of_ble_eq_true rfl) ?_
  intro p e s m args below meth c A ls Q S hA hK hG hl hP hD hS hret0
  have hx := S.1
  have hb := S.2.1
  have ht : ∀ w, w ∈ wsL_law → w.before args s = true := fun w h => S.2.2.2.2 w (List.mem_cons_of_mem _ h)
  have hret : ∀ (r9 : Int32) (v_M_at : Int32) (v_M_begin : Int32) (v_M_kind : Int32) (v_M_value : Int64) (a_M_read : Nat → Int32), (some (r9, v_M_at, v_M_begin, v_M_kind, v_M_value, a_M_read) : Option (Int32 × Int32 × Int32 × Int32 × Int64 × (Nat → Int32))) = some o → narrow .boolean (.int r9) = .int r9 → ∀ (H : Heap) (locs : List Loc) (pc : Nat) (ls : Array Slot), va_P D vwCl (ws_X11_takesDue cI cJ cZ cA q_M q_M_read q_M_text u_M_now u_M_images u_M_kept u_M_sign u_M_manyAbove u_M_manyBelow u_M_above u_M_below u_M_refused u_M_acts u_M_act u_M_waits u_M_wait u_M_held u_M_place u_M_heap u_M_clocks u_M_counts u_M_talking u_M_most u_M_hasA u_M_hasB u_M_talks u_M_big v_M_size v_M_at v_M_begin v_M_kind v_M_value a_M_read a_M_text) H → va_S A s.heap H locs → decode cX11_takesDue pc = .ok (.ireturn, 1) → W p l e rm_X11_takesDue s m args below meth c H locs 0 0 Q (F0 m pc ls [.int r9]) := by
    intro r9 v_M_at v_M_begin v_M_kind v_M_value a_M_read he; cases he; exact hret0
  have hl : lv_has ls 3 [(0, .ref q_M)] := hl
  have B85 : ∀ (x1 : Int32) (x2 : Int32) (v_M_at : Int32) (v_M_begin : Int32) (v_M_kind : Int32) (v_M_value : Int64) (a_M_read : Nat → Int32) (H : Heap) (locs : List Loc) (ls : Array Slot) (hl : lv_has ls 3 [(0, .ref q_M), (1, .int x1), (2, .int x2)]) (hP : va_P D vwCl (ws_X11_takesDue cI cJ cZ cA q_M q_M_read q_M_text u_M_now u_M_images u_M_kept u_M_sign u_M_manyAbove u_M_manyBelow u_M_above u_M_below u_M_refused u_M_acts u_M_act u_M_waits u_M_wait u_M_held u_M_place u_M_heap u_M_clocks u_M_counts u_M_talking u_M_most u_M_hasA u_M_hasB u_M_talks u_M_big v_M_size v_M_at v_M_begin v_M_kind v_M_value a_M_read a_M_text) H) (hD : va_D A (ws_X11_takesDue cI cJ cZ cA q_M q_M_read q_M_text u_M_now u_M_images u_M_kept u_M_sign u_M_manyAbove u_M_manyBelow u_M_above u_M_below u_M_refused u_M_acts u_M_act u_M_waits u_M_wait u_M_held u_M_place u_M_heap u_M_clocks u_M_counts u_M_talking u_M_most u_M_hasA u_M_hasB u_M_talks u_M_big v_M_size v_M_at v_M_begin v_M_kind v_M_value a_M_read a_M_text)) (hS : va_S A s.heap H locs), g_X11_takesDue_85 v_M_size a_M_text x1 x2 v_M_at v_M_begin v_M_kind v_M_value a_M_read = some o → W p l e rm_X11_takesDue s m args below meth c H locs 0 0 Q (F0 m 85 ls []) := by
    intro  x1 x2 v_M_at v_M_begin v_M_kind v_M_value a_M_read H locs ls hl hP hD hS hg
    refine lv_aload_n hx hb dX11_takesDue_85 rfl (lv_at hl 0 rfl) ?_
    refine zget (C := RX11) (T := TX11) (N := 31) S hK hP 0 rfl rfl 13 (Nat.le_of_ble_eq_true rfl) zf_11 zw_455 rfl dX11_takesDue_86 ?_
    refine lv_iconst (v := 2) hx hb dX11_takesDue_89 (by decide) ?_
    refine lv_icmp_ne (tgt := 107) hx hb dX11_takesDue_90 (by decide) (fun h90 => ?_) (fun h90 => ?_)
    · have hg := zn hg h90
      refine lv_iconst (v := 0) hx hb dX11_takesDue_107 (by decide) ?_
      exact hret 0 v_M_at v_M_begin v_M_kind v_M_value a_M_read hg (zb01 (Or.inl rfl)) _ _ _ _ hP hS dX11_takesDue_108
    · have hg := zp hg h90
      refine lv_aload_n hx hb dX11_takesDue_93 rfl (lv_at hl 0 rfl) ?_
      refine zget (C := RX11) (T := TX11) (N := 31) S hK hP 0 rfl rfl 14 (Nat.le_of_ble_eq_true rfl) zf_11 zw_456 rfl dX11_takesDue_94 ?_
      refine lv_lconst (v := 0) hx hb dX11_takesDue_97 (by decide) ?_
      refine lv_ldc2 (v := 99) hx hb S.2.2.2.1 (ht _ zw_270) dX11_takesDue_98 ?_
      obtain ⟨v9, hc10, hg⟩ := zbd hg
      refine zcallS (rest := []) S (c_X11_in l D cI cJ cZ cA ga v_M_value (0 : Int64) (99 : Int64) v9 hc10) (zgS zw_220 zw_221 zw_5 zw_222) rfl hd_X11_in ⟨rfl, rfl⟩ ⟨Nat.le_of_ble_eq_true rfl, Nat.le_of_ble_eq_true rfl⟩ rfl hl.1 rfl (Nat.le_of_ble_eq_true rfl) dX11_takesDue_101 hP hD hS hA hK hG (isC := []) rfl (by decide +kernel) rfl ⟨Nat.zero_le _, Nat.zero_le _⟩ (pl := [none, none, none]) (nw := 3) rfl (by decide +kernel) (w2 := (ws_X11_takesDue cI cJ cZ cA q_M q_M_read q_M_text u_M_now u_M_images u_M_kept u_M_sign u_M_manyAbove u_M_manyBelow u_M_above u_M_below u_M_refused u_M_acts u_M_act u_M_waits u_M_wait u_M_held u_M_place u_M_heap u_M_clocks u_M_counts u_M_talking u_M_most u_M_hasA u_M_hasB u_M_talks u_M_big v_M_size v_M_at v_M_begin v_M_kind v_M_value a_M_read a_M_text)) rfl (st1 := [.int v9]) rfl (fun H locs hP hD hS => ?_)
      refine lv_if_ne (tgt := 109) hx hb dX11_takesDue_104 (by decide) (fun h104 => ?_) (fun h104 => ?_)
      · have hg := zn hg h104
        refine lv_aload_n hx hb dX11_takesDue_109 rfl (lv_at hl 0 rfl) ?_
        refine zget (C := RX11) (T := TX11) (N := 31) S hK hP 0 rfl rfl 15 (Nat.le_of_ble_eq_true rfl) zf_11 zw_157 rfl dX11_takesDue_110 ?_
        refine lv_bipush (v := 87) hx hb dX11_takesDue_113 (by decide) ?_
        refine lv_iload_n hx hb dX11_takesDue_115 rfl (lv_at hl 1 rfl) ?_
        refine lv_iadd hx hb dX11_takesDue_116 ?_
        refine lv_iload_n hx hb dX11_takesDue_117 rfl (lv_at hl 2 rfl) ?_
        refine lv_aload_n hx hb dX11_takesDue_118 rfl (lv_at hl 0 rfl) ?_
        refine zget (C := RX11) (T := TX11) (N := 31) S hK hP 0 rfl rfl 14 (Nat.le_of_ble_eq_true rfl) zf_11 zw_456 rfl dX11_takesDue_119 ?_
        refine lv_l2i hx hb dX11_takesDue_122 rfl ?_
        refine lv_imul hx hb dX11_takesDue_123 ?_
        obtain ⟨h11, hg⟩ := zck hg
        refine ziast hx hb hK hP hD hS 1 0 rfl rfl (j := ((87 + x1).toNatClampNeg)) h11 rfl dX11_takesDue_124 (w2 := (ws_X11_takesDue cI cJ cZ cA q_M q_M_read q_M_text u_M_now u_M_images u_M_kept u_M_sign u_M_manyAbove u_M_manyBelow u_M_above u_M_below u_M_refused u_M_acts u_M_act u_M_waits u_M_wait u_M_held u_M_place u_M_heap u_M_clocks u_M_counts u_M_talking u_M_most u_M_hasA u_M_hasB u_M_talks u_M_big v_M_size v_M_at v_M_begin v_M_kind v_M_value (upd a_M_read ((87 + x1).toNatClampNeg) (x2 * v_M_value.toInt32)) a_M_text)) rfl (fun H locs hP hD hS => ?_)
        refine lv_aload_n hx hb dX11_takesDue_125 rfl (lv_at hl 0 rfl) ?_
        refine zget (C := RX11) (T := TX11) (N := 31) S hK hP 0 rfl rfl 15 (Nat.le_of_ble_eq_true rfl) zf_11 zw_157 rfl dX11_takesDue_126 ?_
        refine lv_iconst (v := 5) hx hb dX11_takesDue_129 (by decide) ?_
        refine lv_dup2_11 hx hb dX11_takesDue_130 rfl rfl ?_
        refine ziald hx hb hK hP 1 0 rfl rfl (j := 5) (zin (by decide)) (by decide) dX11_takesDue_131 ?_
        refine lv_iconst (v := 1) hx hb dX11_takesDue_132 (by decide) ?_
        refine lv_iadd hx hb dX11_takesDue_133 ?_
        refine ziast hx hb hK hP hD hS 1 0 rfl rfl (j := 5) (zin (by decide)) (by decide) dX11_takesDue_134 (w2 := (ws_X11_takesDue cI cJ cZ cA q_M q_M_read q_M_text u_M_now u_M_images u_M_kept u_M_sign u_M_manyAbove u_M_manyBelow u_M_above u_M_below u_M_refused u_M_acts u_M_act u_M_waits u_M_wait u_M_held u_M_place u_M_heap u_M_clocks u_M_counts u_M_talking u_M_most u_M_hasA u_M_hasB u_M_talks u_M_big v_M_size v_M_at v_M_begin v_M_kind v_M_value (upd (upd a_M_read ((87 + x1).toNatClampNeg) (x2 * v_M_value.toInt32)) 5 (((upd a_M_read ((87 + x1).toNatClampNeg) (x2 * v_M_value.toInt32)) 5) + 1)) a_M_text)) rfl (fun H locs hP hD hS => ?_)
        refine lv_aload_n hx hb dX11_takesDue_135 rfl (lv_at hl 0 rfl) ?_
        obtain ⟨v12, hc13, hg⟩ := zbd hg
        refine zcallV (rest := []) S (c_X11_stops l D cI cJ cZ cA ga q_M q_M_text u_M_now u_M_images u_M_kept u_M_sign u_M_manyAbove u_M_manyBelow u_M_above u_M_below u_M_refused (.ref q_M_read) u_M_acts u_M_act u_M_waits u_M_wait u_M_held u_M_place u_M_heap u_M_clocks u_M_counts u_M_talking u_M_most u_M_hasA u_M_hasB u_M_talks u_M_big v_M_size v_M_at v_M_begin v_M_kind v_M_value a_M_text v12 hc13) (zgV zw_491 zw_492 zw_493 zw_5 zw_494) rfl hd_X11_stops ⟨rfl, rfl⟩ ⟨Nat.le_of_ble_eq_true rfl, Nat.le_of_ble_eq_true rfl⟩ 0 11 rfl rfl rfl hl.1 rfl (Nat.le_of_ble_eq_true rfl) dX11_takesDue_136 hP hD hS hA hK hG (isC := [0, 2]) rfl (by decide +kernel) rfl ⟨Nat.zero_le _, Nat.zero_le _⟩ (pl := [some 0, none, some 1]) (nw := 3) rfl (by decide +kernel) (w2 := (ws_X11_takesDue cI cJ cZ cA q_M q_M_read q_M_text u_M_now u_M_images u_M_kept u_M_sign u_M_manyAbove u_M_manyBelow u_M_above u_M_below u_M_refused u_M_acts u_M_act u_M_waits u_M_wait u_M_held u_M_place u_M_heap u_M_clocks u_M_counts u_M_talking u_M_most u_M_hasA u_M_hasB u_M_talks u_M_big v_M_size v12.2.1 v12.2.2.1 v12.2.2.2.1 v12.2.2.2.2 (upd (upd a_M_read ((87 + x1).toNatClampNeg) (x2 * v_M_value.toInt32)) 5 (((upd a_M_read ((87 + x1).toNatClampNeg) (x2 * v_M_value.toInt32)) 5) + 1)) a_M_text)) rfl (st1 := [.int v12.1]) rfl (fun H locs hP hD hS => ?_)
        obtain ⟨hz01, hg⟩ := zck2 hg
        exact hret v12.1 v12.2.1 v12.2.2.1 v12.2.2.2.1 v12.2.2.2.2 (upd (upd a_M_read ((87 + x1).toNatClampNeg) (x2 * v_M_value.toInt32)) 5 (((upd a_M_read ((87 + x1).toNatClampNeg) (x2 * v_M_value.toInt32)) 5) + 1)) hg (zb01 hz01) _ _ _ _ hP hS dX11_takesDue_139
      · have hg := zp hg h104
        refine lv_iconst (v := 0) hx hb dX11_takesDue_107 (by decide) ?_
        exact hret 0 v_M_at v_M_begin v_M_kind v_M_value a_M_read hg (zb01 (Or.inl rfl)) _ _ _ _ hP hS dX11_takesDue_108
  refine lv_aload_n hx hb dX11_takesDue_0 rfl (lv_at hl 0 rfl) ?_
  refine zget (C := RX11) (T := TX11) (N := 31) S hK hP 0 rfl rfl 15 (Nat.le_of_ble_eq_true rfl) zf_11 zw_157 rfl dX11_takesDue_1 ?_
  refine lv_iconst (v := 5) hx hb dX11_takesDue_4 (by decide) ?_
  refine ziald hx hb hK hP 1 0 rfl rfl (j := 5) (zin (by decide)) (by decide) dX11_takesDue_5 ?_
  refine lv_istore_n (lv' := [(1, .int (a_M_read 5)), (0, .ref q_M)]) hx hb dX11_takesDue_6 rfl hl (by decide) rfl (fun ls hl => ?_)
  refine lv_iload_n hx hb dX11_takesDue_7 rfl (lv_at hl 0 rfl) ?_
  refine lv_bipush (v := 8) hx hb dX11_takesDue_8 (by decide) ?_
  refine lv_icmp_eq (tgt := 23) hx hb dX11_takesDue_10 (by decide) (fun h10 => ?_) (fun h10 => ?_)
  · have hg := zp hg h10
    refine lv_iconst (v := 0) hx hb dX11_takesDue_23 (by decide) ?_
    exact hret 0 v_M_at v_M_begin v_M_kind v_M_value a_M_read hg (zb01 (Or.inl rfl)) _ _ _ _ hP hS dX11_takesDue_24
  · have hg := zn hg h10
    refine lv_aload_n hx hb dX11_takesDue_13 rfl (lv_at hl 1 rfl) ?_
    refine lv_iconst (v := 0) hx hb dX11_takesDue_14 (by decide) ?_
    refine lv_bipush (v := 99) hx hb dX11_takesDue_15 (by decide) ?_
    obtain ⟨v1, hc2, hg⟩ := zbd hg
    refine zcallV (rest := []) S (c_X11_takes l D cI cJ cZ cA ga q_M q_M_text u_M_now u_M_images u_M_kept u_M_sign u_M_manyAbove u_M_manyBelow u_M_above u_M_below u_M_refused (.ref q_M_read) u_M_acts u_M_act u_M_waits u_M_wait u_M_held u_M_place u_M_heap u_M_clocks u_M_counts u_M_talking u_M_most u_M_hasA u_M_hasB u_M_talks u_M_big v_M_size v_M_at v_M_begin v_M_kind v_M_value a_M_text 0 99 v1 hc2) (zgV zw_487 zw_488 zw_489 zw_5 zw_490) rfl hd_X11_takes ⟨rfl, rfl⟩ ⟨Nat.le_of_ble_eq_true rfl, Nat.le_of_ble_eq_true rfl⟩ 0 11 rfl rfl rfl hl.1 rfl (Nat.le_of_ble_eq_true rfl) dX11_takesDue_17 hP hD hS hA hK hG (isC := [0, 2]) rfl (by decide +kernel) rfl ⟨Nat.zero_le _, Nat.zero_le _⟩ (pl := [some 0, none, some 1]) (nw := 3) rfl (by decide +kernel) (w2 := (ws_X11_takesDue cI cJ cZ cA q_M q_M_read q_M_text u_M_now u_M_images u_M_kept u_M_sign u_M_manyAbove u_M_manyBelow u_M_above u_M_below u_M_refused u_M_acts u_M_act u_M_waits u_M_wait u_M_held u_M_place u_M_heap u_M_clocks u_M_counts u_M_talking u_M_most u_M_hasA u_M_hasB u_M_talks u_M_big v_M_size v1.2.1 v1.2.2.1 v1.2.2.2.1 v1.2.2.2.2 a_M_read a_M_text)) rfl (st1 := [.int v1.1]) rfl (fun H locs hP hD hS => ?_)
    refine lv_if_ne (tgt := 25) hx hb dX11_takesDue_20 (by decide) (fun h20 => ?_) (fun h20 => ?_)
    · have hg := zn hg h20
      refine lv_aload_n hx hb dX11_takesDue_25 rfl (lv_at hl 1 rfl) ?_
      refine zget (C := RX11) (T := TX11) (N := 31) S hK hP 0 rfl rfl 15 (Nat.le_of_ble_eq_true rfl) zf_11 zw_157 rfl dX11_takesDue_26 ?_
      refine lv_bipush (v := 71) hx hb dX11_takesDue_29 (by decide) ?_
      refine lv_iload_n hx hb dX11_takesDue_31 rfl (lv_at hl 0 rfl) ?_
      refine lv_iadd hx hb dX11_takesDue_32 ?_
      refine lv_aload_n hx hb dX11_takesDue_33 rfl (lv_at hl 1 rfl) ?_
      refine zget (C := RX11) (T := TX11) (N := 31) S hK hP 0 rfl rfl 14 (Nat.le_of_ble_eq_true rfl) zf_11 zw_456 rfl dX11_takesDue_34 ?_
      refine lv_l2i hx hb dX11_takesDue_37 rfl ?_
      obtain ⟨h3, hg⟩ := zck hg
      refine ziast hx hb hK hP hD hS 1 0 rfl rfl (j := ((71 + (a_M_read 5)).toNatClampNeg)) h3 rfl dX11_takesDue_38 (w2 := (ws_X11_takesDue cI cJ cZ cA q_M q_M_read q_M_text u_M_now u_M_images u_M_kept u_M_sign u_M_manyAbove u_M_manyBelow u_M_above u_M_below u_M_refused u_M_acts u_M_act u_M_waits u_M_wait u_M_held u_M_place u_M_heap u_M_clocks u_M_counts u_M_talking u_M_most u_M_hasA u_M_hasB u_M_talks u_M_big v_M_size v1.2.1 v1.2.2.1 v1.2.2.2.1 v1.2.2.2.2 (upd a_M_read ((71 + (a_M_read 5)).toNatClampNeg) v1.2.2.2.2.toInt32) a_M_text)) rfl (fun H locs hP hD hS => ?_)
      refine lv_aload_n hx hb dX11_takesDue_39 rfl (lv_at hl 1 rfl) ?_
      refine lv_iconst (v := 0) hx hb dX11_takesDue_40 (by decide) ?_
      refine lv_bipush (v := 99) hx hb dX11_takesDue_41 (by decide) ?_
      obtain ⟨v4, hc5, hg⟩ := zbd hg
      refine zcallV (rest := []) S (c_X11_takes l D cI cJ cZ cA ga q_M q_M_text u_M_now u_M_images u_M_kept u_M_sign u_M_manyAbove u_M_manyBelow u_M_above u_M_below u_M_refused (.ref q_M_read) u_M_acts u_M_act u_M_waits u_M_wait u_M_held u_M_place u_M_heap u_M_clocks u_M_counts u_M_talking u_M_most u_M_hasA u_M_hasB u_M_talks u_M_big v_M_size v1.2.1 v1.2.2.1 v1.2.2.2.1 v1.2.2.2.2 a_M_text 0 99 v4 hc5) (zgV zw_487 zw_488 zw_489 zw_5 zw_490) rfl hd_X11_takes ⟨rfl, rfl⟩ ⟨Nat.le_of_ble_eq_true rfl, Nat.le_of_ble_eq_true rfl⟩ 0 11 rfl rfl rfl hl.1 rfl (Nat.le_of_ble_eq_true rfl) dX11_takesDue_43 hP hD hS hA hK hG (isC := [0, 2]) rfl (by decide +kernel) rfl ⟨Nat.zero_le _, Nat.zero_le _⟩ (pl := [some 0, none, some 1]) (nw := 3) rfl (by decide +kernel) (w2 := (ws_X11_takesDue cI cJ cZ cA q_M q_M_read q_M_text u_M_now u_M_images u_M_kept u_M_sign u_M_manyAbove u_M_manyBelow u_M_above u_M_below u_M_refused u_M_acts u_M_act u_M_waits u_M_wait u_M_held u_M_place u_M_heap u_M_clocks u_M_counts u_M_talking u_M_most u_M_hasA u_M_hasB u_M_talks u_M_big v_M_size v4.2.1 v4.2.2.1 v4.2.2.2.1 v4.2.2.2.2 (upd a_M_read ((71 + (a_M_read 5)).toNatClampNeg) v1.2.2.2.2.toInt32) a_M_text)) rfl (st1 := [.int v4.1]) rfl (fun H locs hP hD hS => ?_)
      refine lv_if_ne (tgt := 51) hx hb dX11_takesDue_46 (by decide) (fun h46 => ?_) (fun h46 => ?_)
      · have hg := zn hg h46
        refine lv_aload_n hx hb dX11_takesDue_51 rfl (lv_at hl 1 rfl) ?_
        refine zget (C := RX11) (T := TX11) (N := 31) S hK hP 0 rfl rfl 15 (Nat.le_of_ble_eq_true rfl) zf_11 zw_157 rfl dX11_takesDue_52 ?_
        refine lv_bipush (v := 79) hx hb dX11_takesDue_55 (by decide) ?_
        refine lv_iload_n hx hb dX11_takesDue_57 rfl (lv_at hl 0 rfl) ?_
        refine lv_iadd hx hb dX11_takesDue_58 ?_
        refine lv_aload_n hx hb dX11_takesDue_59 rfl (lv_at hl 1 rfl) ?_
        refine zget (C := RX11) (T := TX11) (N := 31) S hK hP 0 rfl rfl 14 (Nat.le_of_ble_eq_true rfl) zf_11 zw_456 rfl dX11_takesDue_60 ?_
        refine lv_l2i hx hb dX11_takesDue_63 rfl ?_
        obtain ⟨h6, hg⟩ := zck hg
        refine ziast hx hb hK hP hD hS 1 0 rfl rfl (j := ((79 + (a_M_read 5)).toNatClampNeg)) h6 rfl dX11_takesDue_64 (w2 := (ws_X11_takesDue cI cJ cZ cA q_M q_M_read q_M_text u_M_now u_M_images u_M_kept u_M_sign u_M_manyAbove u_M_manyBelow u_M_above u_M_below u_M_refused u_M_acts u_M_act u_M_waits u_M_wait u_M_held u_M_place u_M_heap u_M_clocks u_M_counts u_M_talking u_M_most u_M_hasA u_M_hasB u_M_talks u_M_big v_M_size v4.2.1 v4.2.2.1 v4.2.2.2.1 v4.2.2.2.2 (upd (upd a_M_read ((71 + (a_M_read 5)).toNatClampNeg) v1.2.2.2.2.toInt32) ((79 + (a_M_read 5)).toNatClampNeg) v4.2.2.2.2.toInt32) a_M_text)) rfl (fun H locs hP hD hS => ?_)
        refine lv_aload_n hx hb dX11_takesDue_65 rfl (lv_at hl 1 rfl) ?_
        obtain ⟨v7, hc8, hg⟩ := zbd hg
        refine zcallV (rest := []) S (c_X11_next l D cI cJ cZ cA ga q_M q_M_text u_M_now u_M_images u_M_kept u_M_sign u_M_manyAbove u_M_manyBelow u_M_above u_M_below u_M_refused (.ref q_M_read) u_M_acts u_M_act u_M_waits u_M_wait u_M_held u_M_place u_M_heap u_M_clocks u_M_counts u_M_talking u_M_most u_M_hasA u_M_hasB u_M_talks u_M_big v_M_size v4.2.1 v4.2.2.1 v4.2.2.2.1 v4.2.2.2.2 a_M_text v7 hc8) (zgV zw_464 zw_465 zw_466 zw_5 zw_467) rfl hd_X11_next ⟨rfl, rfl⟩ ⟨Nat.le_of_ble_eq_true rfl, Nat.le_of_ble_eq_true rfl⟩ 0 11 rfl rfl rfl hl.1 rfl (Nat.le_of_ble_eq_true rfl) dX11_takesDue_66 hP hD hS hA hK hG (isC := [0, 2]) rfl (by decide +kernel) rfl ⟨Nat.zero_le _, Nat.zero_le _⟩ (pl := [some 0, none, some 1]) (nw := 3) rfl (by decide +kernel) (w2 := (ws_X11_takesDue cI cJ cZ cA q_M q_M_read q_M_text u_M_now u_M_images u_M_kept u_M_sign u_M_manyAbove u_M_manyBelow u_M_above u_M_below u_M_refused u_M_acts u_M_act u_M_waits u_M_wait u_M_held u_M_place u_M_heap u_M_clocks u_M_counts u_M_talking u_M_most u_M_hasA u_M_hasB u_M_talks u_M_big v_M_size v7.1 v7.2.1 v7.2.2.1 v7.2.2.2 (upd (upd a_M_read ((71 + (a_M_read 5)).toNatClampNeg) v1.2.2.2.2.toInt32) ((79 + (a_M_read 5)).toNatClampNeg) v4.2.2.2.2.toInt32) a_M_text)) rfl (st1 := []) rfl (fun H locs hP hD hS => ?_)
        refine lv_iconst (v := 1) hx hb dX11_takesDue_69 (by decide) ?_
        refine lv_istore_n (lv' := [(2, .int 1), (1, .int (a_M_read 5)), (0, .ref q_M)]) hx hb dX11_takesDue_70 rfl hl (by decide) rfl (fun ls hl => ?_)
        refine lv_aload_n hx hb dX11_takesDue_71 rfl (lv_at hl 2 rfl) ?_
        refine zget (C := RX11) (T := TX11) (N := 31) S hK hP 0 rfl rfl 13 (Nat.le_of_ble_eq_true rfl) zf_11 zw_455 rfl dX11_takesDue_72 ?_
        refine lv_iconst (v := 3) hx hb dX11_takesDue_75 (by decide) ?_
        refine lv_icmp_ne (tgt := 85) hx hb dX11_takesDue_76 (by decide) (fun h76 => ?_) (fun h76 => ?_)
        · have hg := zn hg h76
          exact B85 (a_M_read 5) 1 v7.1 v7.2.1 v7.2.2.1 v7.2.2.2 (upd (upd a_M_read ((71 + (a_M_read 5)).toNatClampNeg) v1.2.2.2.2.toInt32) ((79 + (a_M_read 5)).toNatClampNeg) v4.2.2.2.2.toInt32) _ _ _ (lv_sub hl [2, 1, 0] rfl) hP hD hS hg
        · have hg := zp hg h76
          refine lv_iconst (v := (-1)) hx hb dX11_takesDue_79 (by decide) ?_
          refine lv_istore_n (lv' := [(2, .int (-1)), (1, .int (a_M_read 5)), (0, .ref q_M)]) hx hb dX11_takesDue_80 rfl hl (by decide) rfl (fun ls hl => ?_)
          refine lv_aload_n hx hb dX11_takesDue_81 rfl (lv_at hl 2 rfl) ?_
          obtain ⟨v14, hc15, hg⟩ := zbd hg
          refine zcallV (rest := []) S (c_X11_next l D cI cJ cZ cA ga q_M q_M_text u_M_now u_M_images u_M_kept u_M_sign u_M_manyAbove u_M_manyBelow u_M_above u_M_below u_M_refused (.ref q_M_read) u_M_acts u_M_act u_M_waits u_M_wait u_M_held u_M_place u_M_heap u_M_clocks u_M_counts u_M_talking u_M_most u_M_hasA u_M_hasB u_M_talks u_M_big v_M_size v7.1 v7.2.1 v7.2.2.1 v7.2.2.2 a_M_text v14 hc15) (zgV zw_464 zw_465 zw_466 zw_5 zw_467) rfl hd_X11_next ⟨rfl, rfl⟩ ⟨Nat.le_of_ble_eq_true rfl, Nat.le_of_ble_eq_true rfl⟩ 0 11 rfl rfl rfl hl.1 rfl (Nat.le_of_ble_eq_true rfl) dX11_takesDue_82 hP hD hS hA hK hG (isC := [0, 2]) rfl (by decide +kernel) rfl ⟨Nat.zero_le _, Nat.zero_le _⟩ (pl := [some 0, none, some 1]) (nw := 3) rfl (by decide +kernel) (w2 := (ws_X11_takesDue cI cJ cZ cA q_M q_M_read q_M_text u_M_now u_M_images u_M_kept u_M_sign u_M_manyAbove u_M_manyBelow u_M_above u_M_below u_M_refused u_M_acts u_M_act u_M_waits u_M_wait u_M_held u_M_place u_M_heap u_M_clocks u_M_counts u_M_talking u_M_most u_M_hasA u_M_hasB u_M_talks u_M_big v_M_size v14.1 v14.2.1 v14.2.2.1 v14.2.2.2 (upd (upd a_M_read ((71 + (a_M_read 5)).toNatClampNeg) v1.2.2.2.2.toInt32) ((79 + (a_M_read 5)).toNatClampNeg) v4.2.2.2.2.toInt32) a_M_text)) rfl (st1 := []) rfl (fun H locs hP hD hS => ?_)
          exact B85 (a_M_read 5) (-1) v14.1 v14.2.1 v14.2.2.1 v14.2.2.2 (upd (upd a_M_read ((71 + (a_M_read 5)).toNatClampNeg) v1.2.2.2.2.toInt32) ((79 + (a_M_read 5)).toNatClampNeg) v4.2.2.2.2.toInt32) _ _ _ (lv_sub hl [2, 1, 0] rfl) hP hD hS hg
      · have hg := zp hg h46
        refine lv_iconst (v := 0) hx hb dX11_takesDue_49 (by decide) ?_
        exact hret 0 v4.2.1 v4.2.2.1 v4.2.2.2.1 v4.2.2.2.2 (upd a_M_read ((71 + (a_M_read 5)).toNatClampNeg) v1.2.2.2.2.toInt32) hg (zb01 (Or.inl rfl)) _ _ _ _ hP hS dX11_takesDue_50
    · have hg := zp hg h20
      refine lv_iconst (v := 0) hx hb dX11_takesDue_23 (by decide) ?_
      exact hret 0 v1.2.1 v1.2.2.1 v1.2.2.2.1 v1.2.2.2.2 a_M_read hg (zb01 (Or.inl rfl)) _ _ _ _ hP hS dX11_takesDue_24

/-! SpokenClockModel.takesSight()Z -/
abbrev ws_X11_takesSight (cI cJ cZ cA : ClassId) (q_M q_M_read q_M_text : Nat) (u_M_now : Value) (u_M_images : Value) (u_M_kept : Value) (u_M_sign : Value) (u_M_manyAbove : Value) (u_M_manyBelow : Value) (u_M_above : Value) (u_M_below : Value) (u_M_refused : Value) (u_M_acts : Value) (u_M_act : Value) (u_M_waits : Value) (u_M_wait : Value) (u_M_held : Value) (u_M_place : Value) (u_M_heap : Value) (u_M_clocks : Value) (u_M_counts : Value) (u_M_talking : Value) (u_M_most : Value) (u_M_hasA : Value) (u_M_hasB : Value) (u_M_talks : Value) (u_M_big : Value) (v_M_size : Int32) (v_M_at : Int32) (v_M_begin : Int32) (v_M_kind : Int32) (v_M_value : Int64) (a_M_read : Nat → Int32) (a_M_text : Nat → Int32) : va_W := [(q_M, .inr (11, [u_M_now, u_M_images, u_M_kept, .ref q_M_text, .int v_M_size, u_M_sign, u_M_manyAbove, u_M_manyBelow, u_M_above, u_M_below, u_M_refused, .int v_M_at, .int v_M_begin, .int v_M_kind, .long v_M_value, .ref q_M_read, u_M_acts, u_M_act, u_M_waits, u_M_wait, u_M_held, u_M_place, u_M_heap, u_M_clocks, u_M_counts, u_M_talking, u_M_most, u_M_hasA, u_M_hasB, u_M_talks, u_M_big])), (q_M_read, .inl (cI, 155, .inl a_M_read)), (q_M_text, .inl (cI, 250, .inl a_M_text))]
abbrev rm_X11_takesSight : Room := { frames := 4, cells := 0, slots := 0, locals := 88 }
def g_X11_takesSight (v_M_size : Int32) (a_M_text : Nat → Int32) (v_M_at : Int32) (v_M_begin : Int32) (v_M_kind : Int32) (v_M_value : Int64) (a_M_read : Nat → Int32) : Option (Int32 × Int32 × Int32 × Int32 × Int64 × (Nat → Int32)) :=
  if (a_M_read 6) = 10 then (
    some (0, v_M_at, v_M_begin, v_M_kind, v_M_value, a_M_read)
  ) else (
    (g_X11_takes v_M_size a_M_text 0 240 v_M_at v_M_begin v_M_kind v_M_value).bind fun v1 =>
    if v1.1 = 0 then (
      some (0, v1.2.1, v1.2.2.1, v1.2.2.2.1, v1.2.2.2.2, a_M_read)
    ) else (
      if (95 + (a_M_read 6)) < 0 ∨ 155 ≤ (95 + (a_M_read 6)).toNatClampNeg then none else
      (g_X11_takes v_M_size a_M_text 0 999 v1.2.1 v1.2.2.1 v1.2.2.2.1 v1.2.2.2.2).bind fun v4 =>
      if v4.1 = 0 then (
        some (0, v4.2.1, v4.2.2.1, v4.2.2.2.1, v4.2.2.2.2, upd a_M_read ((95 + (a_M_read 6)).toNatClampNeg) v1.2.2.2.2.toInt32)
      ) else (
        if (105 + (a_M_read 6)) < 0 ∨ 155 ≤ (105 + (a_M_read 6)).toNatClampNeg then none else
        (g_X11_stops v_M_size a_M_text v4.2.1 v4.2.2.1 v4.2.2.2.1 v4.2.2.2.2).bind fun v7 =>
        if v7.1 = 0 ∨ v7.1 = 1 then
          some (v7.1, v7.2.1, v7.2.2.1, v7.2.2.2.1, v7.2.2.2.2, upd (upd (upd a_M_read ((95 + (a_M_read 6)).toNatClampNeg) v1.2.2.2.2.toInt32) ((105 + (a_M_read 6)).toNatClampNeg) v4.2.2.2.2.toInt32) 6 (((upd (upd a_M_read ((95 + (a_M_read 6)).toNatClampNeg) v1.2.2.2.2.toInt32) ((105 + (a_M_read 6)).toNatClampNeg) v4.2.2.2.2.toInt32) 6) + 1))
        else none
      )
    )
  )
theorem hd_X11_takesSight : yX11_takesSight.cls = RX11 ∧ yX11_takesSight.cls ≠ "java/lang/invoke/MethodHandle" ∧ yX11_takesSight.cls ≠ "java/lang/invoke/VarHandle" ∧ (parseMethodDescriptor yX11_takesSight.desc).map (fun d => d.parameters.length) = some 0 := by decide +kernel
set_option maxHeartbeats 4000000 in
set_option maxRecDepth 100000 in
theorem c_X11_takesSight (l : Launch) (D : va_G) (cI cJ cZ cA : ClassId) (ga : Nat → Nat) (q_M q_M_read q_M_text : Nat) (u_M_now : Value) (u_M_images : Value) (u_M_kept : Value) (u_M_sign : Value) (u_M_manyAbove : Value) (u_M_manyBelow : Value) (u_M_above : Value) (u_M_below : Value) (u_M_refused : Value) (u_M_acts : Value) (u_M_act : Value) (u_M_waits : Value) (u_M_wait : Value) (u_M_held : Value) (u_M_place : Value) (u_M_heap : Value) (u_M_clocks : Value) (u_M_counts : Value) (u_M_talking : Value) (u_M_most : Value) (u_M_hasA : Value) (u_M_hasB : Value) (u_M_talks : Value) (u_M_big : Value) (v_M_size : Int32) (v_M_at : Int32) (v_M_begin : Int32) (v_M_kind : Int32) (v_M_value : Int64) (a_M_read : Nat → Int32) (a_M_text : Nat → Int32) (o : Int32 × Int32 × Int32 × Int32 × Int64 × (Nat → Int32)) (hg : g_X11_takesSight v_M_size a_M_text v_M_at v_M_begin v_M_kind v_M_value a_M_read = some o) : zM l yX11_takesSight (Cond.code yX11_takesSight cX11_takesSight 2 (some .boolean) :: wsL_law) rm_X11_takesSight D (zTy cI cJ cZ cA) ga [.ref q_M] (ws_X11_takesSight cI cJ cZ cA q_M q_M_read q_M_text u_M_now u_M_images u_M_kept u_M_sign u_M_manyAbove u_M_manyBelow u_M_above u_M_below u_M_refused u_M_acts u_M_act u_M_waits u_M_wait u_M_held u_M_place u_M_heap u_M_clocks u_M_counts u_M_talking u_M_most u_M_hasA u_M_hasB u_M_talks u_M_big v_M_size v_M_at v_M_begin v_M_kind v_M_value a_M_read a_M_text) (ws_X11_takesSight cI cJ cZ cA q_M q_M_read q_M_text u_M_now u_M_images u_M_kept u_M_sign u_M_manyAbove u_M_manyBelow u_M_above u_M_below u_M_refused u_M_acts u_M_act u_M_waits u_M_wait u_M_held u_M_place u_M_heap u_M_clocks u_M_counts u_M_talking u_M_most u_M_hasA u_M_hasB u_M_talks u_M_big v_M_size o.2.1 o.2.2.1 o.2.2.2.1 o.2.2.2.2.1 o.2.2.2.2.2 a_M_text) (some (.int o.1)) := by
  refine zenterN (own := RX11) (by decide) rfl rfl (Nat.le_of_ble_eq_true rfl) ?_
  intro p e s m args below meth c A ls Q S hA hK hG hl hP hD hS hret0
  have hx := S.1
  have hb := S.2.1
  have ht : ∀ w, w ∈ wsL_law → w.before args s = true := fun w h => S.2.2.2.2 w (List.mem_cons_of_mem _ h)
  have hret : ∀ (r9 : Int32) (v_M_at : Int32) (v_M_begin : Int32) (v_M_kind : Int32) (v_M_value : Int64) (a_M_read : Nat → Int32), (some (r9, v_M_at, v_M_begin, v_M_kind, v_M_value, a_M_read) : Option (Int32 × Int32 × Int32 × Int32 × Int64 × (Nat → Int32))) = some o → narrow .boolean (.int r9) = .int r9 → ∀ (H : Heap) (locs : List Loc) (pc : Nat) (ls : Array Slot), va_P D vwCl (ws_X11_takesSight cI cJ cZ cA q_M q_M_read q_M_text u_M_now u_M_images u_M_kept u_M_sign u_M_manyAbove u_M_manyBelow u_M_above u_M_below u_M_refused u_M_acts u_M_act u_M_waits u_M_wait u_M_held u_M_place u_M_heap u_M_clocks u_M_counts u_M_talking u_M_most u_M_hasA u_M_hasB u_M_talks u_M_big v_M_size v_M_at v_M_begin v_M_kind v_M_value a_M_read a_M_text) H → va_S A s.heap H locs → decode cX11_takesSight pc = .ok (.ireturn, 1) → W p l e rm_X11_takesSight s m args below meth c H locs 0 0 Q (F0 m pc ls [.int r9]) := by
    intro r9 v_M_at v_M_begin v_M_kind v_M_value a_M_read he; cases he; exact hret0
  have hl : lv_has ls 2 [(0, .ref q_M)] := hl
  refine lv_aload_n hx hb dX11_takesSight_0 rfl (lv_at hl 0 rfl) ?_
  refine zget (C := RX11) (T := TX11) (N := 31) S hK hP 0 rfl rfl 15 (Nat.le_of_ble_eq_true rfl) zf_11 zw_157 rfl dX11_takesSight_1 ?_
  refine lv_bipush (v := 6) hx hb dX11_takesSight_4 (by decide) ?_
  refine ziald hx hb hK hP 1 0 rfl rfl (j := 6) (zin (by decide)) (by decide) dX11_takesSight_6 ?_
  refine lv_istore_n (lv' := [(1, .int (a_M_read 6)), (0, .ref q_M)]) hx hb dX11_takesSight_7 rfl hl (by decide) rfl (fun ls hl => ?_)
  refine lv_iload_n hx hb dX11_takesSight_8 rfl (lv_at hl 0 rfl) ?_
  refine lv_bipush (v := 10) hx hb dX11_takesSight_9 (by decide) ?_
  refine lv_icmp_eq (tgt := 25) hx hb dX11_takesSight_11 (by decide) (fun h11 => ?_) (fun h11 => ?_)
  · have hg := zp hg h11
    refine lv_iconst (v := 0) hx hb dX11_takesSight_25 (by decide) ?_
    exact hret 0 v_M_at v_M_begin v_M_kind v_M_value a_M_read hg (zb01 (Or.inl rfl)) _ _ _ _ hP hS dX11_takesSight_26
  · have hg := zn hg h11
    refine lv_aload_n hx hb dX11_takesSight_14 rfl (lv_at hl 1 rfl) ?_
    refine lv_iconst (v := 0) hx hb dX11_takesSight_15 (by decide) ?_
    refine lv_sipush (v := 240) hx hb dX11_takesSight_16 (by decide) ?_
    obtain ⟨v1, hc2, hg⟩ := zbd hg
    refine zcallV (rest := []) S (c_X11_takes l D cI cJ cZ cA ga q_M q_M_text u_M_now u_M_images u_M_kept u_M_sign u_M_manyAbove u_M_manyBelow u_M_above u_M_below u_M_refused (.ref q_M_read) u_M_acts u_M_act u_M_waits u_M_wait u_M_held u_M_place u_M_heap u_M_clocks u_M_counts u_M_talking u_M_most u_M_hasA u_M_hasB u_M_talks u_M_big v_M_size v_M_at v_M_begin v_M_kind v_M_value a_M_text 0 240 v1 hc2) (zgV zw_487 zw_488 zw_489 zw_5 zw_490) rfl hd_X11_takes ⟨rfl, rfl⟩ ⟨Nat.le_of_ble_eq_true rfl, Nat.le_of_ble_eq_true rfl⟩ 0 11 rfl rfl rfl hl.1 rfl (Nat.le_of_ble_eq_true rfl) dX11_takesSight_19 hP hD hS hA hK hG (isC := [0, 2]) rfl (by decide +kernel) rfl ⟨Nat.zero_le _, Nat.zero_le _⟩ (pl := [some 0, none, some 1]) (nw := 3) rfl (by decide +kernel) (w2 := (ws_X11_takesSight cI cJ cZ cA q_M q_M_read q_M_text u_M_now u_M_images u_M_kept u_M_sign u_M_manyAbove u_M_manyBelow u_M_above u_M_below u_M_refused u_M_acts u_M_act u_M_waits u_M_wait u_M_held u_M_place u_M_heap u_M_clocks u_M_counts u_M_talking u_M_most u_M_hasA u_M_hasB u_M_talks u_M_big v_M_size v1.2.1 v1.2.2.1 v1.2.2.2.1 v1.2.2.2.2 a_M_read a_M_text)) rfl (st1 := [.int v1.1]) rfl (fun H locs hP hD hS => ?_)
    refine lv_if_ne (tgt := 27) hx hb dX11_takesSight_22 (by decide) (fun h22 => ?_) (fun h22 => ?_)
    · have hg := zn hg h22
      refine lv_aload_n hx hb dX11_takesSight_27 rfl (lv_at hl 1 rfl) ?_
      refine zget (C := RX11) (T := TX11) (N := 31) S hK hP 0 rfl rfl 15 (Nat.le_of_ble_eq_true rfl) zf_11 zw_157 rfl dX11_takesSight_28 ?_
      refine lv_bipush (v := 95) hx hb dX11_takesSight_31 (by decide) ?_
      refine lv_iload_n hx hb dX11_takesSight_33 rfl (lv_at hl 0 rfl) ?_
      refine lv_iadd hx hb dX11_takesSight_34 ?_
      refine lv_aload_n hx hb dX11_takesSight_35 rfl (lv_at hl 1 rfl) ?_
      refine zget (C := RX11) (T := TX11) (N := 31) S hK hP 0 rfl rfl 14 (Nat.le_of_ble_eq_true rfl) zf_11 zw_456 rfl dX11_takesSight_36 ?_
      refine lv_l2i hx hb dX11_takesSight_39 rfl ?_
      obtain ⟨h3, hg⟩ := zck hg
      refine ziast hx hb hK hP hD hS 1 0 rfl rfl (j := ((95 + (a_M_read 6)).toNatClampNeg)) h3 rfl dX11_takesSight_40 (w2 := (ws_X11_takesSight cI cJ cZ cA q_M q_M_read q_M_text u_M_now u_M_images u_M_kept u_M_sign u_M_manyAbove u_M_manyBelow u_M_above u_M_below u_M_refused u_M_acts u_M_act u_M_waits u_M_wait u_M_held u_M_place u_M_heap u_M_clocks u_M_counts u_M_talking u_M_most u_M_hasA u_M_hasB u_M_talks u_M_big v_M_size v1.2.1 v1.2.2.1 v1.2.2.2.1 v1.2.2.2.2 (upd a_M_read ((95 + (a_M_read 6)).toNatClampNeg) v1.2.2.2.2.toInt32) a_M_text)) rfl (fun H locs hP hD hS => ?_)
      refine lv_aload_n hx hb dX11_takesSight_41 rfl (lv_at hl 1 rfl) ?_
      refine lv_iconst (v := 0) hx hb dX11_takesSight_42 (by decide) ?_
      refine lv_sipush (v := 999) hx hb dX11_takesSight_43 (by decide) ?_
      obtain ⟨v4, hc5, hg⟩ := zbd hg
      refine zcallV (rest := []) S (c_X11_takes l D cI cJ cZ cA ga q_M q_M_text u_M_now u_M_images u_M_kept u_M_sign u_M_manyAbove u_M_manyBelow u_M_above u_M_below u_M_refused (.ref q_M_read) u_M_acts u_M_act u_M_waits u_M_wait u_M_held u_M_place u_M_heap u_M_clocks u_M_counts u_M_talking u_M_most u_M_hasA u_M_hasB u_M_talks u_M_big v_M_size v1.2.1 v1.2.2.1 v1.2.2.2.1 v1.2.2.2.2 a_M_text 0 999 v4 hc5) (zgV zw_487 zw_488 zw_489 zw_5 zw_490) rfl hd_X11_takes ⟨rfl, rfl⟩ ⟨Nat.le_of_ble_eq_true rfl, Nat.le_of_ble_eq_true rfl⟩ 0 11 rfl rfl rfl hl.1 rfl (Nat.le_of_ble_eq_true rfl) dX11_takesSight_46 hP hD hS hA hK hG (isC := [0, 2]) rfl (by decide +kernel) rfl ⟨Nat.zero_le _, Nat.zero_le _⟩ (pl := [some 0, none, some 1]) (nw := 3) rfl (by decide +kernel) (w2 := (ws_X11_takesSight cI cJ cZ cA q_M q_M_read q_M_text u_M_now u_M_images u_M_kept u_M_sign u_M_manyAbove u_M_manyBelow u_M_above u_M_below u_M_refused u_M_acts u_M_act u_M_waits u_M_wait u_M_held u_M_place u_M_heap u_M_clocks u_M_counts u_M_talking u_M_most u_M_hasA u_M_hasB u_M_talks u_M_big v_M_size v4.2.1 v4.2.2.1 v4.2.2.2.1 v4.2.2.2.2 (upd a_M_read ((95 + (a_M_read 6)).toNatClampNeg) v1.2.2.2.2.toInt32) a_M_text)) rfl (st1 := [.int v4.1]) rfl (fun H locs hP hD hS => ?_)
      refine lv_if_ne (tgt := 54) hx hb dX11_takesSight_49 (by decide) (fun h49 => ?_) (fun h49 => ?_)
      · have hg := zn hg h49
        refine lv_aload_n hx hb dX11_takesSight_54 rfl (lv_at hl 1 rfl) ?_
        refine zget (C := RX11) (T := TX11) (N := 31) S hK hP 0 rfl rfl 15 (Nat.le_of_ble_eq_true rfl) zf_11 zw_157 rfl dX11_takesSight_55 ?_
        refine lv_bipush (v := 105) hx hb dX11_takesSight_58 (by decide) ?_
        refine lv_iload_n hx hb dX11_takesSight_60 rfl (lv_at hl 0 rfl) ?_
        refine lv_iadd hx hb dX11_takesSight_61 ?_
        refine lv_aload_n hx hb dX11_takesSight_62 rfl (lv_at hl 1 rfl) ?_
        refine zget (C := RX11) (T := TX11) (N := 31) S hK hP 0 rfl rfl 14 (Nat.le_of_ble_eq_true rfl) zf_11 zw_456 rfl dX11_takesSight_63 ?_
        refine lv_l2i hx hb dX11_takesSight_66 rfl ?_
        obtain ⟨h6, hg⟩ := zck hg
        refine ziast hx hb hK hP hD hS 1 0 rfl rfl (j := ((105 + (a_M_read 6)).toNatClampNeg)) h6 rfl dX11_takesSight_67 (w2 := (ws_X11_takesSight cI cJ cZ cA q_M q_M_read q_M_text u_M_now u_M_images u_M_kept u_M_sign u_M_manyAbove u_M_manyBelow u_M_above u_M_below u_M_refused u_M_acts u_M_act u_M_waits u_M_wait u_M_held u_M_place u_M_heap u_M_clocks u_M_counts u_M_talking u_M_most u_M_hasA u_M_hasB u_M_talks u_M_big v_M_size v4.2.1 v4.2.2.1 v4.2.2.2.1 v4.2.2.2.2 (upd (upd a_M_read ((95 + (a_M_read 6)).toNatClampNeg) v1.2.2.2.2.toInt32) ((105 + (a_M_read 6)).toNatClampNeg) v4.2.2.2.2.toInt32) a_M_text)) rfl (fun H locs hP hD hS => ?_)
        refine lv_aload_n hx hb dX11_takesSight_68 rfl (lv_at hl 1 rfl) ?_
        refine zget (C := RX11) (T := TX11) (N := 31) S hK hP 0 rfl rfl 15 (Nat.le_of_ble_eq_true rfl) zf_11 zw_157 rfl dX11_takesSight_69 ?_
        refine lv_bipush (v := 6) hx hb dX11_takesSight_72 (by decide) ?_
        refine lv_dup2_11 hx hb dX11_takesSight_74 rfl rfl ?_
        refine ziald hx hb hK hP 1 0 rfl rfl (j := 6) (zin (by decide)) (by decide) dX11_takesSight_75 ?_
        refine lv_iconst (v := 1) hx hb dX11_takesSight_76 (by decide) ?_
        refine lv_iadd hx hb dX11_takesSight_77 ?_
        refine ziast hx hb hK hP hD hS 1 0 rfl rfl (j := 6) (zin (by decide)) (by decide) dX11_takesSight_78 (w2 := (ws_X11_takesSight cI cJ cZ cA q_M q_M_read q_M_text u_M_now u_M_images u_M_kept u_M_sign u_M_manyAbove u_M_manyBelow u_M_above u_M_below u_M_refused u_M_acts u_M_act u_M_waits u_M_wait u_M_held u_M_place u_M_heap u_M_clocks u_M_counts u_M_talking u_M_most u_M_hasA u_M_hasB u_M_talks u_M_big v_M_size v4.2.1 v4.2.2.1 v4.2.2.2.1 v4.2.2.2.2 (upd (upd (upd a_M_read ((95 + (a_M_read 6)).toNatClampNeg) v1.2.2.2.2.toInt32) ((105 + (a_M_read 6)).toNatClampNeg) v4.2.2.2.2.toInt32) 6 (((upd (upd a_M_read ((95 + (a_M_read 6)).toNatClampNeg) v1.2.2.2.2.toInt32) ((105 + (a_M_read 6)).toNatClampNeg) v4.2.2.2.2.toInt32) 6) + 1)) a_M_text)) rfl (fun H locs hP hD hS => ?_)
        refine lv_aload_n hx hb dX11_takesSight_79 rfl (lv_at hl 1 rfl) ?_
        obtain ⟨v7, hc8, hg⟩ := zbd hg
        refine zcallV (rest := []) S (c_X11_stops l D cI cJ cZ cA ga q_M q_M_text u_M_now u_M_images u_M_kept u_M_sign u_M_manyAbove u_M_manyBelow u_M_above u_M_below u_M_refused (.ref q_M_read) u_M_acts u_M_act u_M_waits u_M_wait u_M_held u_M_place u_M_heap u_M_clocks u_M_counts u_M_talking u_M_most u_M_hasA u_M_hasB u_M_talks u_M_big v_M_size v4.2.1 v4.2.2.1 v4.2.2.2.1 v4.2.2.2.2 a_M_text v7 hc8) (zgV zw_491 zw_492 zw_493 zw_5 zw_494) rfl hd_X11_stops ⟨rfl, rfl⟩ ⟨Nat.le_of_ble_eq_true rfl, Nat.le_of_ble_eq_true rfl⟩ 0 11 rfl rfl rfl hl.1 rfl (Nat.le_of_ble_eq_true rfl) dX11_takesSight_80 hP hD hS hA hK hG (isC := [0, 2]) rfl (by decide +kernel) rfl ⟨Nat.zero_le _, Nat.zero_le _⟩ (pl := [some 0, none, some 1]) (nw := 3) rfl (by decide +kernel) (w2 := (ws_X11_takesSight cI cJ cZ cA q_M q_M_read q_M_text u_M_now u_M_images u_M_kept u_M_sign u_M_manyAbove u_M_manyBelow u_M_above u_M_below u_M_refused u_M_acts u_M_act u_M_waits u_M_wait u_M_held u_M_place u_M_heap u_M_clocks u_M_counts u_M_talking u_M_most u_M_hasA u_M_hasB u_M_talks u_M_big v_M_size v7.2.1 v7.2.2.1 v7.2.2.2.1 v7.2.2.2.2 (upd (upd (upd a_M_read ((95 + (a_M_read 6)).toNatClampNeg) v1.2.2.2.2.toInt32) ((105 + (a_M_read 6)).toNatClampNeg) v4.2.2.2.2.toInt32) 6 (((upd (upd a_M_read ((95 + (a_M_read 6)).toNatClampNeg) v1.2.2.2.2.toInt32) ((105 + (a_M_read 6)).toNatClampNeg) v4.2.2.2.2.toInt32) 6) + 1)) a_M_text)) rfl (st1 := [.int v7.1]) rfl (fun H locs hP hD hS => ?_)
        obtain ⟨hz01, hg⟩ := zck2 hg
        exact hret v7.1 v7.2.1 v7.2.2.1 v7.2.2.2.1 v7.2.2.2.2 (upd (upd (upd a_M_read ((95 + (a_M_read 6)).toNatClampNeg) v1.2.2.2.2.toInt32) ((105 + (a_M_read 6)).toNatClampNeg) v4.2.2.2.2.toInt32) 6 (((upd (upd a_M_read ((95 + (a_M_read 6)).toNatClampNeg) v1.2.2.2.2.toInt32) ((105 + (a_M_read 6)).toNatClampNeg) v4.2.2.2.2.toInt32) 6) + 1)) hg (zb01 hz01) _ _ _ _ hP hS dX11_takesSight_83
      · have hg := zp hg h49
        refine lv_iconst (v := 0) hx hb dX11_takesSight_52 (by decide) ?_
        exact hret 0 v4.2.1 v4.2.2.1 v4.2.2.2.1 v4.2.2.2.2 (upd a_M_read ((95 + (a_M_read 6)).toNatClampNeg) v1.2.2.2.2.toInt32) hg (zb01 (Or.inl rfl)) _ _ _ _ hP hS dX11_takesSight_53
    · have hg := zp hg h22
      refine lv_iconst (v := 0) hx hb dX11_takesSight_25 (by decide) ?_
      exact hret 0 v1.2.1 v1.2.2.1 v1.2.2.2.1 v1.2.2.2.2 a_M_read hg (zb01 (Or.inl rfl)) _ _ _ _ hP hS dX11_takesSight_26

/-! SpokenClockModel.takesAll()I -/
abbrev ws_X11_takesAll (cI cJ cZ cA : ClassId) (q_M q_M_read q_M_text q_M_now : Nat) (u_M_images : Value) (u_M_kept : Value) (u_M_sign : Value) (u_M_manyAbove : Value) (u_M_manyBelow : Value) (u_M_above : Value) (u_M_below : Value) (u_M_refused : Value) (u_M_acts : Value) (u_M_act : Value) (u_M_waits : Value) (u_M_wait : Value) (u_M_held : Value) (u_M_place : Value) (u_M_heap : Value) (u_M_clocks : Value) (u_M_counts : Value) (u_M_talking : Value) (u_M_most : Value) (u_M_hasA : Value) (u_M_hasB : Value) (u_M_talks : Value) (u_M_big : Value) (v_M_size : Int32) (v_M_at : Int32) (v_M_begin : Int32) (v_M_kind : Int32) (v_M_value : Int64) (a_M_read : Nat → Int32) (a_M_text : Nat → Int32) (a_M_now : Nat → Int32) : va_W := [(q_M, .inr (11, [.ref q_M_now, u_M_images, u_M_kept, .ref q_M_text, .int v_M_size, u_M_sign, u_M_manyAbove, u_M_manyBelow, u_M_above, u_M_below, u_M_refused, .int v_M_at, .int v_M_begin, .int v_M_kind, .long v_M_value, .ref q_M_read, u_M_acts, u_M_act, u_M_waits, u_M_wait, u_M_held, u_M_place, u_M_heap, u_M_clocks, u_M_counts, u_M_talking, u_M_most, u_M_hasA, u_M_hasB, u_M_talks, u_M_big])), (q_M_read, .inl (cI, 155, .inl a_M_read)), (q_M_text, .inl (cI, 250, .inl a_M_text)), (q_M_now, .inl (cI, 155, .inl a_M_now))]
abbrev rm_X11_takesAll : Room := { frames := 5, cells := 0, slots := 0, locals := 110 }
def g_X11_takesAll_258 (v_M_size : Int32) (a_M_text : Nat → Int32) (a_M_now : Nat → Int32) (k91 : Int32 → Int32 → Int32 → Int32 → Int64 → (Nat → Int32) → Option (Int32 × Int32 × Int32 × Int32 × Int64 × (Nat → Int32))) (x1 : Int32) (t0 : Int32) (v_M_at : Int32) (v_M_begin : Int32) (v_M_kind : Int32) (v_M_value : Int64) (a_M_read : Nat → Int32) : Option (Int32 × Int32 × Int32 × Int32 × Int64 × (Nat → Int32)) :=
  if t0 = 0 then (
    some ((-1), v_M_at, v_M_begin, v_M_kind, v_M_value, a_M_read)
  ) else (
    (g_X11_next v_M_size a_M_text v_M_at v_M_begin v_M_kind v_M_value).bind fun v3 =>
    k91 (x1 + 1) v3.1 v3.2.1 v3.2.2.1 v3.2.2.2 a_M_read
  )
def g_X11_takesAll_257 (v_M_size : Int32) (a_M_text : Nat → Int32) (a_M_now : Nat → Int32) (k91 : Int32 → Int32 → Int32 → Int32 → Int64 → (Nat → Int32) → Option (Int32 × Int32 × Int32 × Int32 × Int64 × (Nat → Int32))) (x1 : Int32) (v_M_at : Int32) (v_M_begin : Int32) (v_M_kind : Int32) (v_M_value : Int64) (a_M_read : Nat → Int32) : Option (Int32 × Int32 × Int32 × Int32 × Int64 × (Nat → Int32)) :=
  g_X11_takesAll_258 v_M_size a_M_text a_M_now k91 x1 0 v_M_at v_M_begin v_M_kind v_M_value a_M_read
def g_X11_takesAll_253 (v_M_size : Int32) (a_M_text : Nat → Int32) (a_M_now : Nat → Int32) (k91 : Int32 → Int32 → Int32 → Int32 → Int64 → (Nat → Int32) → Option (Int32 × Int32 × Int32 × Int32 × Int64 × (Nat → Int32))) (x1 : Int32) (v_M_at : Int32) (v_M_begin : Int32) (v_M_kind : Int32) (v_M_value : Int64) (a_M_read : Nat → Int32) : Option (Int32 × Int32 × Int32 × Int32 × Int64 × (Nat → Int32)) :=
  g_X11_takesAll_258 v_M_size a_M_text a_M_now k91 x1 1 v_M_at v_M_begin v_M_kind v_M_value a_M_read
def g_X11_takesAll_91b (v_M_size : Int32) (a_M_text : Nat → Int32) (a_M_now : Nat → Int32) (k91 : Int32 → Int32 → Int32 → Int32 → Int64 → (Nat → Int32) → Option (Int32 × Int32 × Int32 × Int32 × Int64 × (Nat → Int32))) (x1 : Int32) (v_M_at : Int32) (v_M_begin : Int32) (v_M_kind : Int32) (v_M_value : Int64) (a_M_read : Nat → Int32) : Option (Int32 × Int32 × Int32 × Int32 × Int64 × (Nat → Int32)) :=
  if v_M_kind = 0 then (
    some (x1, v_M_at, v_M_begin, v_M_kind, v_M_value, a_M_read)
  ) else (
    if v_M_kind = 1 then (
      if (lg_cmp v_M_value (198260 : Int64)) = 0 then (
        (g_X11_takesPut v_M_size a_M_text 0 v_M_at v_M_begin v_M_kind v_M_value a_M_read).bind fun v17 =>
        if v17.1 = 0 then (
          g_X11_takesAll_257 v_M_size a_M_text a_M_now k91 x1 v17.2.1 v17.2.2.1 v17.2.2.2.1 v17.2.2.2.2.1 v17.2.2.2.2.2
        ) else (
          g_X11_takesAll_253 v_M_size a_M_text a_M_now k91 x1 v17.2.1 v17.2.2.1 v17.2.2.2.1 v17.2.2.2.2.1 v17.2.2.2.2.2
        )
      ) else (
        if (lg_cmp v_M_value (20429043 : Int64)) = 0 then (
          (g_X11_takesPut v_M_size a_M_text 1 v_M_at v_M_begin v_M_kind v_M_value a_M_read).bind fun v15 =>
          if v15.1 = 0 then (
            g_X11_takesAll_257 v_M_size a_M_text a_M_now k91 x1 v15.2.1 v15.2.2.1 v15.2.2.2.1 v15.2.2.2.2.1 v15.2.2.2.2.2
          ) else (
            g_X11_takesAll_253 v_M_size a_M_text a_M_now k91 x1 v15.2.1 v15.2.2.1 v15.2.2.2.1 v15.2.2.2.2.1 v15.2.2.2.2.2
          )
        ) else (
          if (lg_cmp v_M_value (2212 : Int64)) = 0 then (
            (g_X11_takesPut v_M_size a_M_text 2 v_M_at v_M_begin v_M_kind v_M_value a_M_read).bind fun v13 =>
            if v13.1 = 0 then (
              g_X11_takesAll_257 v_M_size a_M_text a_M_now k91 x1 v13.2.1 v13.2.2.1 v13.2.2.2.1 v13.2.2.2.2.1 v13.2.2.2.2.2
            ) else (
              g_X11_takesAll_253 v_M_size a_M_text a_M_now k91 x1 v13.2.1 v13.2.2.1 v13.2.2.2.1 v13.2.2.2.2.1 v13.2.2.2.2.2
            )
          ) else (
            if (lg_cmp v_M_value (542723566 : Int64)) = 0 then (
              (g_X11_takesPerson v_M_size a_M_text v_M_at v_M_begin v_M_kind v_M_value a_M_read).bind fun v11 =>
              if v11.1 = 0 then (
                g_X11_takesAll_257 v_M_size a_M_text a_M_now k91 x1 v11.2.1 v11.2.2.1 v11.2.2.2.1 v11.2.2.2.2.1 v11.2.2.2.2.2
              ) else (
                g_X11_takesAll_253 v_M_size a_M_text a_M_now k91 x1 v11.2.1 v11.2.2.1 v11.2.2.2.1 v11.2.2.2.2.1 v11.2.2.2.2.2
              )
            ) else (
              if (lg_cmp v_M_value (656779 : Int64)) = 0 then (
                (g_X11_takesTalk v_M_size a_M_text v_M_at v_M_begin v_M_kind v_M_value a_M_read).bind fun v9 =>
                if v9.1 = 0 then (
                  g_X11_takesAll_257 v_M_size a_M_text a_M_now k91 x1 v9.2.1 v9.2.2.1 v9.2.2.2.1 v9.2.2.2.2.1 v9.2.2.2.2.2
                ) else (
                  g_X11_takesAll_253 v_M_size a_M_text a_M_now k91 x1 v9.2.1 v9.2.2.1 v9.2.2.2.1 v9.2.2.2.2.1 v9.2.2.2.2.2
                )
              ) else (
                if (lg_cmp v_M_value (4773 : Int64)) = 0 then (
                  (g_X11_takesDue v_M_size a_M_text v_M_at v_M_begin v_M_kind v_M_value a_M_read).bind fun v7 =>
                  if v7.1 = 0 then (
                    g_X11_takesAll_257 v_M_size a_M_text a_M_now k91 x1 v7.2.1 v7.2.2.1 v7.2.2.2.1 v7.2.2.2.2.1 v7.2.2.2.2.2
                  ) else (
                    g_X11_takesAll_253 v_M_size a_M_text a_M_now k91 x1 v7.2.1 v7.2.2.1 v7.2.2.2.1 v7.2.2.2.2.1 v7.2.2.2.2.2
                  )
                ) else (
                  if (lg_cmp v_M_value (20225300 : Int64)) = 0 then (
                    (g_X11_takesSight v_M_size a_M_text v_M_at v_M_begin v_M_kind v_M_value a_M_read).bind fun v5 =>
                    if v5.1 = 0 then (
                      g_X11_takesAll_257 v_M_size a_M_text a_M_now k91 x1 v5.2.1 v5.2.2.1 v5.2.2.2.1 v5.2.2.2.2.1 v5.2.2.2.2.2
                    ) else (
                      g_X11_takesAll_253 v_M_size a_M_text a_M_now k91 x1 v5.2.1 v5.2.2.1 v5.2.2.2.1 v5.2.2.2.2.1 v5.2.2.2.2.2
                    )
                  ) else (
                    g_X11_takesAll_257 v_M_size a_M_text a_M_now k91 x1 v_M_at v_M_begin v_M_kind v_M_value a_M_read
                  )
                )
              )
            )
          )
        )
      )
    ) else (
      g_X11_takesAll_257 v_M_size a_M_text a_M_now k91 x1 v_M_at v_M_begin v_M_kind v_M_value a_M_read
    )
  )
def g_X11_takesAll_91 (v_M_size : Int32) (a_M_text : Nat → Int32) (a_M_now : Nat → Int32) : Nat → Int32 → Int32 → Int32 → Int32 → Int64 → (Nat → Int32) → Option (Int32 × Int32 × Int32 × Int32 × Int64 × (Nat → Int32))
  | 0, _, _, _, _, _, _ => none
  | n + 1, x1, v_M_at, v_M_begin, v_M_kind, v_M_value, a_M_read => g_X11_takesAll_91b v_M_size a_M_text a_M_now (g_X11_takesAll_91 v_M_size a_M_text a_M_now n) x1 v_M_at v_M_begin v_M_kind v_M_value a_M_read
def g_X11_takesAll_61b (v_M_size : Int32) (a_M_text : Nat → Int32) (a_M_now : Nat → Int32) (k61 : Int32 → Int32 → Int32 → Int32 → Int64 → (Nat → Int32) → Option (Int32 × Int32 × Int32 × Int32 × Int64 × (Nat → Int32))) (x1 : Int32) (v_M_at : Int32) (v_M_begin : Int32) (v_M_kind : Int32) (v_M_value : Int64) (a_M_read : Nat → Int32) : Option (Int32 × Int32 × Int32 × Int32 × Int64 × (Nat → Int32)) :=
  if 6 < x1 then (
    (g_X11_next v_M_size a_M_text 0 v_M_begin v_M_kind v_M_value).bind fun v1 =>
    g_X11_takesAll_91 v_M_size a_M_text a_M_now zF 0 v1.1 v1.2.1 v1.2.2.1 v1.2.2.2 a_M_read
  ) else (
    if x1 < 0 ∨ 155 ≤ x1.toNatClampNeg then none else
    k61 (x1 + 1) v_M_at v_M_begin v_M_kind v_M_value (upd a_M_read (x1.toNatClampNeg) 0)
  )
def g_X11_takesAll_61 (v_M_size : Int32) (a_M_text : Nat → Int32) (a_M_now : Nat → Int32) : Nat → Int32 → Int32 → Int32 → Int32 → Int64 → (Nat → Int32) → Option (Int32 × Int32 × Int32 × Int32 × Int64 × (Nat → Int32))
  | 0, _, _, _, _, _, _ => none
  | n + 1, x1, v_M_at, v_M_begin, v_M_kind, v_M_value, a_M_read => g_X11_takesAll_61b v_M_size a_M_text a_M_now (g_X11_takesAll_61 v_M_size a_M_text a_M_now n) x1 v_M_at v_M_begin v_M_kind v_M_value a_M_read
def g_X11_takesAll_30 (v_M_size : Int32) (a_M_text : Nat → Int32) (a_M_now : Nat → Int32) (k2 : Int32 → Int32 → Int32 → Int32 → Int64 → (Nat → Int32) → Option (Int32 × Int32 × Int32 × Int32 × Int64 × (Nat → Int32))) (x1 : Int32) (t1 : Int32) (t2 : Int32) (v_M_at : Int32) (v_M_begin : Int32) (v_M_kind : Int32) (v_M_value : Int64) (a_M_read : Nat → Int32) : Option (Int32 × Int32 × Int32 × Int32 × Int64 × (Nat → Int32)) :=
  if t1 < 0 ∨ 155 ≤ t1.toNatClampNeg then none else
  k2 (x1 + 1) v_M_at v_M_begin v_M_kind v_M_value (upd a_M_read (t1.toNatClampNeg) t2)
def g_X11_takesAll_2b (v_M_size : Int32) (a_M_text : Nat → Int32) (a_M_now : Nat → Int32) (k2 : Int32 → Int32 → Int32 → Int32 → Int64 → (Nat → Int32) → Option (Int32 × Int32 × Int32 × Int32 × Int64 × (Nat → Int32))) (x1 : Int32) (v_M_at : Int32) (v_M_begin : Int32) (v_M_kind : Int32) (v_M_value : Int64) (a_M_read : Nat → Int32) : Option (Int32 × Int32 × Int32 × Int32 × Int64 × (Nat → Int32)) :=
  if 155 ≤ x1 then (
    g_X11_takesAll_61 v_M_size a_M_text a_M_now zF 3 v_M_at v_M_begin v_M_kind v_M_value (upd (upd (upd a_M_read 0 1) 1 0) 2 60)
  ) else (
    if 13 ≤ x1 then (
      g_X11_takesAll_30 v_M_size a_M_text a_M_now k2 x1 x1 0 v_M_at v_M_begin v_M_kind v_M_value a_M_read
    ) else (
      if x1 < 0 ∨ 155 ≤ x1.toNatClampNeg then none else
      g_X11_takesAll_30 v_M_size a_M_text a_M_now k2 x1 x1 (a_M_now (x1.toNatClampNeg)) v_M_at v_M_begin v_M_kind v_M_value a_M_read
    )
  )
def g_X11_takesAll_2 (v_M_size : Int32) (a_M_text : Nat → Int32) (a_M_now : Nat → Int32) : Nat → Int32 → Int32 → Int32 → Int32 → Int64 → (Nat → Int32) → Option (Int32 × Int32 × Int32 × Int32 × Int64 × (Nat → Int32))
  | 0, _, _, _, _, _, _ => none
  | n + 1, x1, v_M_at, v_M_begin, v_M_kind, v_M_value, a_M_read => g_X11_takesAll_2b v_M_size a_M_text a_M_now (g_X11_takesAll_2 v_M_size a_M_text a_M_now n) x1 v_M_at v_M_begin v_M_kind v_M_value a_M_read
def g_X11_takesAll (v_M_size : Int32) (a_M_text : Nat → Int32) (a_M_now : Nat → Int32) (v_M_at : Int32) (v_M_begin : Int32) (v_M_kind : Int32) (v_M_value : Int64) (a_M_read : Nat → Int32) : Option (Int32 × Int32 × Int32 × Int32 × Int64 × (Nat → Int32)) :=
  g_X11_takesAll_2 v_M_size a_M_text a_M_now zF 0 v_M_at v_M_begin v_M_kind v_M_value a_M_read
theorem hd_X11_takesAll : yX11_takesAll.cls = RX11 ∧ yX11_takesAll.cls ≠ "java/lang/invoke/MethodHandle" ∧ yX11_takesAll.cls ≠ "java/lang/invoke/VarHandle" ∧ (parseMethodDescriptor yX11_takesAll.desc).map (fun d => d.parameters.length) = some 0 := by decide +kernel
set_option maxHeartbeats 4000000 in
set_option maxRecDepth 100000 in
theorem c_X11_takesAll (l : Launch) (D : va_G) (cI cJ cZ cA : ClassId) (ga : Nat → Nat) (q_M q_M_read q_M_text q_M_now : Nat) (u_M_images : Value) (u_M_kept : Value) (u_M_sign : Value) (u_M_manyAbove : Value) (u_M_manyBelow : Value) (u_M_above : Value) (u_M_below : Value) (u_M_refused : Value) (u_M_acts : Value) (u_M_act : Value) (u_M_waits : Value) (u_M_wait : Value) (u_M_held : Value) (u_M_place : Value) (u_M_heap : Value) (u_M_clocks : Value) (u_M_counts : Value) (u_M_talking : Value) (u_M_most : Value) (u_M_hasA : Value) (u_M_hasB : Value) (u_M_talks : Value) (u_M_big : Value) (v_M_size : Int32) (v_M_at : Int32) (v_M_begin : Int32) (v_M_kind : Int32) (v_M_value : Int64) (a_M_read : Nat → Int32) (a_M_text : Nat → Int32) (a_M_now : Nat → Int32) (o : Int32 × Int32 × Int32 × Int32 × Int64 × (Nat → Int32)) (hg : g_X11_takesAll v_M_size a_M_text a_M_now v_M_at v_M_begin v_M_kind v_M_value a_M_read = some o) : zM l yX11_takesAll (Cond.code yX11_takesAll cX11_takesAll 3 (some .int) :: wsL_law) rm_X11_takesAll D (zTy cI cJ cZ cA) ga [.ref q_M] (ws_X11_takesAll cI cJ cZ cA q_M q_M_read q_M_text q_M_now u_M_images u_M_kept u_M_sign u_M_manyAbove u_M_manyBelow u_M_above u_M_below u_M_refused u_M_acts u_M_act u_M_waits u_M_wait u_M_held u_M_place u_M_heap u_M_clocks u_M_counts u_M_talking u_M_most u_M_hasA u_M_hasB u_M_talks u_M_big v_M_size v_M_at v_M_begin v_M_kind v_M_value a_M_read a_M_text a_M_now) (ws_X11_takesAll cI cJ cZ cA q_M q_M_read q_M_text q_M_now u_M_images u_M_kept u_M_sign u_M_manyAbove u_M_manyBelow u_M_above u_M_below u_M_refused u_M_acts u_M_act u_M_waits u_M_wait u_M_held u_M_place u_M_heap u_M_clocks u_M_counts u_M_talking u_M_most u_M_hasA u_M_hasB u_M_talks u_M_big v_M_size o.2.1 o.2.2.1 o.2.2.2.1 o.2.2.2.2.1 o.2.2.2.2.2 a_M_text a_M_now) (some (.int o.1)) := by
  refine zenterI (own := RX11) (by decide) rfl rfl (Nat.le_of_ble_eq_true rfl) ?_
  intro p e s m args below meth c A ls Q S hA hK hG hl hP hD hS hret0
  have hx := S.1
  have hb := S.2.1
  have ht : ∀ w, w ∈ wsL_law → w.before args s = true := fun w h => S.2.2.2.2 w (List.mem_cons_of_mem _ h)
  have hret : ∀ (r9 : Int32) (v_M_at : Int32) (v_M_begin : Int32) (v_M_kind : Int32) (v_M_value : Int64) (a_M_read : Nat → Int32), (some (r9, v_M_at, v_M_begin, v_M_kind, v_M_value, a_M_read) : Option (Int32 × Int32 × Int32 × Int32 × Int64 × (Nat → Int32))) = some o → ∀ (H : Heap) (locs : List Loc) (pc : Nat) (ls : Array Slot), va_P D vwCl (ws_X11_takesAll cI cJ cZ cA q_M q_M_read q_M_text q_M_now u_M_images u_M_kept u_M_sign u_M_manyAbove u_M_manyBelow u_M_above u_M_below u_M_refused u_M_acts u_M_act u_M_waits u_M_wait u_M_held u_M_place u_M_heap u_M_clocks u_M_counts u_M_talking u_M_most u_M_hasA u_M_hasB u_M_talks u_M_big v_M_size v_M_at v_M_begin v_M_kind v_M_value a_M_read a_M_text a_M_now) H → va_S A s.heap H locs → decode cX11_takesAll pc = .ok (.ireturn, 1) → W p l e rm_X11_takesAll s m args below meth c H locs 0 0 Q (F0 m pc ls [.int r9]) := by
    intro r9 v_M_at v_M_begin v_M_kind v_M_value a_M_read he; cases he; exact hret0
  have hl : lv_has ls 3 [(0, .ref q_M)] := hl
  have B258 : ∀ (k91 : Int32 → Int32 → Int32 → Int32 → Int64 → (Nat → Int32) → Option (Int32 × Int32 × Int32 × Int32 × Int64 × (Nat → Int32))) (hk91 : ∀ (x1 : Int32) (v_M_at : Int32) (v_M_begin : Int32) (v_M_kind : Int32) (v_M_value : Int64) (a_M_read : Nat → Int32) (H : Heap) (locs : List Loc) (ls : Array Slot) (hl : lv_has ls 3 [(0, .ref q_M), (1, .int x1)]) (hP : va_P D vwCl (ws_X11_takesAll cI cJ cZ cA q_M q_M_read q_M_text q_M_now u_M_images u_M_kept u_M_sign u_M_manyAbove u_M_manyBelow u_M_above u_M_below u_M_refused u_M_acts u_M_act u_M_waits u_M_wait u_M_held u_M_place u_M_heap u_M_clocks u_M_counts u_M_talking u_M_most u_M_hasA u_M_hasB u_M_talks u_M_big v_M_size v_M_at v_M_begin v_M_kind v_M_value a_M_read a_M_text a_M_now) H) (hD : va_D A (ws_X11_takesAll cI cJ cZ cA q_M q_M_read q_M_text q_M_now u_M_images u_M_kept u_M_sign u_M_manyAbove u_M_manyBelow u_M_above u_M_below u_M_refused u_M_acts u_M_act u_M_waits u_M_wait u_M_held u_M_place u_M_heap u_M_clocks u_M_counts u_M_talking u_M_most u_M_hasA u_M_hasB u_M_talks u_M_big v_M_size v_M_at v_M_begin v_M_kind v_M_value a_M_read a_M_text a_M_now)) (hS : va_S A s.heap H locs), k91 x1 v_M_at v_M_begin v_M_kind v_M_value a_M_read = some o → W p l e rm_X11_takesAll s m args below meth c H locs 0 0 Q (F0 m 91 ls [])) (x1 : Int32) (t0 : Int32) (v_M_at : Int32) (v_M_begin : Int32) (v_M_kind : Int32) (v_M_value : Int64) (a_M_read : Nat → Int32) (H : Heap) (locs : List Loc) (ls : Array Slot) (hl : lv_has ls 3 [(0, .ref q_M), (1, .int x1)]) (hP : va_P D vwCl (ws_X11_takesAll cI cJ cZ cA q_M q_M_read q_M_text q_M_now u_M_images u_M_kept u_M_sign u_M_manyAbove u_M_manyBelow u_M_above u_M_below u_M_refused u_M_acts u_M_act u_M_waits u_M_wait u_M_held u_M_place u_M_heap u_M_clocks u_M_counts u_M_talking u_M_most u_M_hasA u_M_hasB u_M_talks u_M_big v_M_size v_M_at v_M_begin v_M_kind v_M_value a_M_read a_M_text a_M_now) H) (hD : va_D A (ws_X11_takesAll cI cJ cZ cA q_M q_M_read q_M_text q_M_now u_M_images u_M_kept u_M_sign u_M_manyAbove u_M_manyBelow u_M_above u_M_below u_M_refused u_M_acts u_M_act u_M_waits u_M_wait u_M_held u_M_place u_M_heap u_M_clocks u_M_counts u_M_talking u_M_most u_M_hasA u_M_hasB u_M_talks u_M_big v_M_size v_M_at v_M_begin v_M_kind v_M_value a_M_read a_M_text a_M_now)) (hS : va_S A s.heap H locs), g_X11_takesAll_258 v_M_size a_M_text a_M_now k91 x1 t0 v_M_at v_M_begin v_M_kind v_M_value a_M_read = some o → W p l e rm_X11_takesAll s m args below meth c H locs 0 0 Q (F0 m 258 ls [.int t0]) := by
    intro k91 hk91 x1 t0 v_M_at v_M_begin v_M_kind v_M_value a_M_read H locs ls hl hP hD hS hg
    refine lv_istore_n (lv' := [(2, .int t0), (0, .ref q_M), (1, .int x1)]) hx hb dX11_takesAll_258 rfl hl (by decide) rfl (fun ls hl => ?_)
    refine lv_iload_n hx hb dX11_takesAll_259 rfl (lv_at hl 0 rfl) ?_
    refine lv_if_ne (tgt := 265) hx hb dX11_takesAll_260 (by decide) (fun h260 => ?_) (fun h260 => ?_)
    · have hg := zn hg h260
      refine lv_iinc (k := 2) (v := x1 + 1) (lv' := [(1, .int (x1 + 1)), (2, .int t0), (0, .ref q_M)]) hx hb dX11_takesAll_265 hl rfl (zinc (by decide)) (by decide) rfl (fun ls hl => ?_)
      refine lv_aload_n hx hb dX11_takesAll_268 rfl (lv_at hl 2 rfl) ?_
      obtain ⟨v3, hc4, hg⟩ := zbd hg
      refine zcallV (rest := []) S (c_X11_next l D cI cJ cZ cA ga q_M q_M_text (.ref q_M_now) u_M_images u_M_kept u_M_sign u_M_manyAbove u_M_manyBelow u_M_above u_M_below u_M_refused (.ref q_M_read) u_M_acts u_M_act u_M_waits u_M_wait u_M_held u_M_place u_M_heap u_M_clocks u_M_counts u_M_talking u_M_most u_M_hasA u_M_hasB u_M_talks u_M_big v_M_size v_M_at v_M_begin v_M_kind v_M_value a_M_text v3 hc4) (zgV zw_464 zw_465 zw_466 zw_5 zw_467) rfl hd_X11_next ⟨rfl, rfl⟩ ⟨Nat.le_of_ble_eq_true rfl, Nat.le_of_ble_eq_true rfl⟩ 0 11 rfl rfl rfl hl.1 rfl (Nat.le_of_ble_eq_true rfl) dX11_takesAll_269 hP hD hS hA hK hG (isC := [0, 2]) rfl (by decide +kernel) rfl ⟨Nat.zero_le _, Nat.zero_le _⟩ (pl := [some 0, none, some 1, none]) (nw := 4) rfl (by decide +kernel) (w2 := (ws_X11_takesAll cI cJ cZ cA q_M q_M_read q_M_text q_M_now u_M_images u_M_kept u_M_sign u_M_manyAbove u_M_manyBelow u_M_above u_M_below u_M_refused u_M_acts u_M_act u_M_waits u_M_wait u_M_held u_M_place u_M_heap u_M_clocks u_M_counts u_M_talking u_M_most u_M_hasA u_M_hasB u_M_talks u_M_big v_M_size v3.1 v3.2.1 v3.2.2.1 v3.2.2.2 a_M_read a_M_text a_M_now)) rfl (st1 := []) rfl (fun H locs hP hD hS => ?_)
      refine lv_goto (tgt := 91) hx hb dX11_takesAll_272 (by decide) ?_
      exact hk91 (x1 + 1) v3.1 v3.2.1 v3.2.2.1 v3.2.2.2 a_M_read _ _ _ (lv_sub hl [2, 0] rfl) hP hD hS hg
    · have hg := zp hg h260
      refine lv_iconst (v := (-1)) hx hb dX11_takesAll_263 (by decide) ?_
      exact hret (-1) v_M_at v_M_begin v_M_kind v_M_value a_M_read hg _ _ _ _ hP hS dX11_takesAll_264
  have B257 : ∀ (k91 : Int32 → Int32 → Int32 → Int32 → Int64 → (Nat → Int32) → Option (Int32 × Int32 × Int32 × Int32 × Int64 × (Nat → Int32))) (hk91 : ∀ (x1 : Int32) (v_M_at : Int32) (v_M_begin : Int32) (v_M_kind : Int32) (v_M_value : Int64) (a_M_read : Nat → Int32) (H : Heap) (locs : List Loc) (ls : Array Slot) (hl : lv_has ls 3 [(0, .ref q_M), (1, .int x1)]) (hP : va_P D vwCl (ws_X11_takesAll cI cJ cZ cA q_M q_M_read q_M_text q_M_now u_M_images u_M_kept u_M_sign u_M_manyAbove u_M_manyBelow u_M_above u_M_below u_M_refused u_M_acts u_M_act u_M_waits u_M_wait u_M_held u_M_place u_M_heap u_M_clocks u_M_counts u_M_talking u_M_most u_M_hasA u_M_hasB u_M_talks u_M_big v_M_size v_M_at v_M_begin v_M_kind v_M_value a_M_read a_M_text a_M_now) H) (hD : va_D A (ws_X11_takesAll cI cJ cZ cA q_M q_M_read q_M_text q_M_now u_M_images u_M_kept u_M_sign u_M_manyAbove u_M_manyBelow u_M_above u_M_below u_M_refused u_M_acts u_M_act u_M_waits u_M_wait u_M_held u_M_place u_M_heap u_M_clocks u_M_counts u_M_talking u_M_most u_M_hasA u_M_hasB u_M_talks u_M_big v_M_size v_M_at v_M_begin v_M_kind v_M_value a_M_read a_M_text a_M_now)) (hS : va_S A s.heap H locs), k91 x1 v_M_at v_M_begin v_M_kind v_M_value a_M_read = some o → W p l e rm_X11_takesAll s m args below meth c H locs 0 0 Q (F0 m 91 ls [])) (x1 : Int32) (v_M_at : Int32) (v_M_begin : Int32) (v_M_kind : Int32) (v_M_value : Int64) (a_M_read : Nat → Int32) (H : Heap) (locs : List Loc) (ls : Array Slot) (hl : lv_has ls 3 [(0, .ref q_M), (1, .int x1)]) (hP : va_P D vwCl (ws_X11_takesAll cI cJ cZ cA q_M q_M_read q_M_text q_M_now u_M_images u_M_kept u_M_sign u_M_manyAbove u_M_manyBelow u_M_above u_M_below u_M_refused u_M_acts u_M_act u_M_waits u_M_wait u_M_held u_M_place u_M_heap u_M_clocks u_M_counts u_M_talking u_M_most u_M_hasA u_M_hasB u_M_talks u_M_big v_M_size v_M_at v_M_begin v_M_kind v_M_value a_M_read a_M_text a_M_now) H) (hD : va_D A (ws_X11_takesAll cI cJ cZ cA q_M q_M_read q_M_text q_M_now u_M_images u_M_kept u_M_sign u_M_manyAbove u_M_manyBelow u_M_above u_M_below u_M_refused u_M_acts u_M_act u_M_waits u_M_wait u_M_held u_M_place u_M_heap u_M_clocks u_M_counts u_M_talking u_M_most u_M_hasA u_M_hasB u_M_talks u_M_big v_M_size v_M_at v_M_begin v_M_kind v_M_value a_M_read a_M_text a_M_now)) (hS : va_S A s.heap H locs), g_X11_takesAll_257 v_M_size a_M_text a_M_now k91 x1 v_M_at v_M_begin v_M_kind v_M_value a_M_read = some o → W p l e rm_X11_takesAll s m args below meth c H locs 0 0 Q (F0 m 257 ls []) := by
    intro k91 hk91 x1 v_M_at v_M_begin v_M_kind v_M_value a_M_read H locs ls hl hP hD hS hg
    refine lv_iconst (v := 0) hx hb dX11_takesAll_257 (by decide) ?_
    exact B258 k91 hk91 x1 0 v_M_at v_M_begin v_M_kind v_M_value a_M_read _ _ _ hl hP hD hS hg
  have B253 : ∀ (k91 : Int32 → Int32 → Int32 → Int32 → Int64 → (Nat → Int32) → Option (Int32 × Int32 × Int32 × Int32 × Int64 × (Nat → Int32))) (hk91 : ∀ (x1 : Int32) (v_M_at : Int32) (v_M_begin : Int32) (v_M_kind : Int32) (v_M_value : Int64) (a_M_read : Nat → Int32) (H : Heap) (locs : List Loc) (ls : Array Slot) (hl : lv_has ls 3 [(0, .ref q_M), (1, .int x1)]) (hP : va_P D vwCl (ws_X11_takesAll cI cJ cZ cA q_M q_M_read q_M_text q_M_now u_M_images u_M_kept u_M_sign u_M_manyAbove u_M_manyBelow u_M_above u_M_below u_M_refused u_M_acts u_M_act u_M_waits u_M_wait u_M_held u_M_place u_M_heap u_M_clocks u_M_counts u_M_talking u_M_most u_M_hasA u_M_hasB u_M_talks u_M_big v_M_size v_M_at v_M_begin v_M_kind v_M_value a_M_read a_M_text a_M_now) H) (hD : va_D A (ws_X11_takesAll cI cJ cZ cA q_M q_M_read q_M_text q_M_now u_M_images u_M_kept u_M_sign u_M_manyAbove u_M_manyBelow u_M_above u_M_below u_M_refused u_M_acts u_M_act u_M_waits u_M_wait u_M_held u_M_place u_M_heap u_M_clocks u_M_counts u_M_talking u_M_most u_M_hasA u_M_hasB u_M_talks u_M_big v_M_size v_M_at v_M_begin v_M_kind v_M_value a_M_read a_M_text a_M_now)) (hS : va_S A s.heap H locs), k91 x1 v_M_at v_M_begin v_M_kind v_M_value a_M_read = some o → W p l e rm_X11_takesAll s m args below meth c H locs 0 0 Q (F0 m 91 ls [])) (x1 : Int32) (v_M_at : Int32) (v_M_begin : Int32) (v_M_kind : Int32) (v_M_value : Int64) (a_M_read : Nat → Int32) (H : Heap) (locs : List Loc) (ls : Array Slot) (hl : lv_has ls 3 [(0, .ref q_M), (1, .int x1)]) (hP : va_P D vwCl (ws_X11_takesAll cI cJ cZ cA q_M q_M_read q_M_text q_M_now u_M_images u_M_kept u_M_sign u_M_manyAbove u_M_manyBelow u_M_above u_M_below u_M_refused u_M_acts u_M_act u_M_waits u_M_wait u_M_held u_M_place u_M_heap u_M_clocks u_M_counts u_M_talking u_M_most u_M_hasA u_M_hasB u_M_talks u_M_big v_M_size v_M_at v_M_begin v_M_kind v_M_value a_M_read a_M_text a_M_now) H) (hD : va_D A (ws_X11_takesAll cI cJ cZ cA q_M q_M_read q_M_text q_M_now u_M_images u_M_kept u_M_sign u_M_manyAbove u_M_manyBelow u_M_above u_M_below u_M_refused u_M_acts u_M_act u_M_waits u_M_wait u_M_held u_M_place u_M_heap u_M_clocks u_M_counts u_M_talking u_M_most u_M_hasA u_M_hasB u_M_talks u_M_big v_M_size v_M_at v_M_begin v_M_kind v_M_value a_M_read a_M_text a_M_now)) (hS : va_S A s.heap H locs), g_X11_takesAll_253 v_M_size a_M_text a_M_now k91 x1 v_M_at v_M_begin v_M_kind v_M_value a_M_read = some o → W p l e rm_X11_takesAll s m args below meth c H locs 0 0 Q (F0 m 253 ls []) := by
    intro k91 hk91 x1 v_M_at v_M_begin v_M_kind v_M_value a_M_read H locs ls hl hP hD hS hg
    refine lv_iconst (v := 1) hx hb dX11_takesAll_253 (by decide) ?_
    refine lv_goto (tgt := 258) hx hb dX11_takesAll_254 (by decide) ?_
    exact B258 k91 hk91 x1 1 v_M_at v_M_begin v_M_kind v_M_value a_M_read _ _ _ hl hP hD hS hg
  have B91 : ∀  (n : Nat) (x1 : Int32) (v_M_at : Int32) (v_M_begin : Int32) (v_M_kind : Int32) (v_M_value : Int64) (a_M_read : Nat → Int32) (H : Heap) (locs : List Loc) (ls : Array Slot) (hl : lv_has ls 3 [(0, .ref q_M), (1, .int x1)]) (hP : va_P D vwCl (ws_X11_takesAll cI cJ cZ cA q_M q_M_read q_M_text q_M_now u_M_images u_M_kept u_M_sign u_M_manyAbove u_M_manyBelow u_M_above u_M_below u_M_refused u_M_acts u_M_act u_M_waits u_M_wait u_M_held u_M_place u_M_heap u_M_clocks u_M_counts u_M_talking u_M_most u_M_hasA u_M_hasB u_M_talks u_M_big v_M_size v_M_at v_M_begin v_M_kind v_M_value a_M_read a_M_text a_M_now) H) (hD : va_D A (ws_X11_takesAll cI cJ cZ cA q_M q_M_read q_M_text q_M_now u_M_images u_M_kept u_M_sign u_M_manyAbove u_M_manyBelow u_M_above u_M_below u_M_refused u_M_acts u_M_act u_M_waits u_M_wait u_M_held u_M_place u_M_heap u_M_clocks u_M_counts u_M_talking u_M_most u_M_hasA u_M_hasB u_M_talks u_M_big v_M_size v_M_at v_M_begin v_M_kind v_M_value a_M_read a_M_text a_M_now)) (hS : va_S A s.heap H locs), g_X11_takesAll_91 v_M_size a_M_text a_M_now n x1 v_M_at v_M_begin v_M_kind v_M_value a_M_read = some o → W p l e rm_X11_takesAll s m args below meth c H locs 0 0 Q (F0 m 91 ls []) := by
    intro  n
    induction n with
    | zero => intro x1 v_M_at v_M_begin v_M_kind v_M_value a_M_read H locs ls hl hP hD hS hg; exact nomatch (show (none : Option (Int32 × Int32 × Int32 × Int32 × Int64 × (Nat → Int32))) = some o from hg)
    | succ n ih =>
      intro x1 v_M_at v_M_begin v_M_kind v_M_value a_M_read H locs ls hl hP hD hS hg
      have hg : g_X11_takesAll_91b v_M_size a_M_text a_M_now (g_X11_takesAll_91 v_M_size a_M_text a_M_now n) x1 v_M_at v_M_begin v_M_kind v_M_value a_M_read = some o := hg
      refine lv_aload_n hx hb dX11_takesAll_91 rfl (lv_at hl 0 rfl) ?_
      refine zget (C := RX11) (T := TX11) (N := 31) S hK hP 0 rfl rfl 13 (Nat.le_of_ble_eq_true rfl) zf_11 zw_455 rfl dX11_takesAll_92 ?_
      refine lv_if_eq (tgt := 275) hx hb dX11_takesAll_95 (by decide) (fun h95 => ?_) (fun h95 => ?_)
      · have hg := zp hg h95
        refine lv_iload_n hx hb dX11_takesAll_275 rfl (lv_at hl 1 rfl) ?_
        exact hret x1 v_M_at v_M_begin v_M_kind v_M_value a_M_read hg _ _ _ _ hP hS dX11_takesAll_276
      · have hg := zn hg h95
        refine lv_aload_n hx hb dX11_takesAll_98 rfl (lv_at hl 0 rfl) ?_
        refine zget (C := RX11) (T := TX11) (N := 31) S hK hP 0 rfl rfl 13 (Nat.le_of_ble_eq_true rfl) zf_11 zw_455 rfl dX11_takesAll_99 ?_
        refine lv_iconst (v := 1) hx hb dX11_takesAll_102 (by decide) ?_
        refine lv_icmp_ne (tgt := 257) hx hb dX11_takesAll_103 (by decide) (fun h103 => ?_) (fun h103 => ?_)
        · have hg := zn hg h103
          exact B257 (g_X11_takesAll_91 v_M_size a_M_text a_M_now n) ih x1 v_M_at v_M_begin v_M_kind v_M_value a_M_read _ _ _ hl hP hD hS hg
        · have hg := zp hg h103
          refine lv_aload_n hx hb dX11_takesAll_106 rfl (lv_at hl 0 rfl) ?_
          refine zget (C := RX11) (T := TX11) (N := 31) S hK hP 0 rfl rfl 14 (Nat.le_of_ble_eq_true rfl) zf_11 zw_456 rfl dX11_takesAll_107 ?_
          refine lv_ldc2 (v := 198260) hx hb S.2.2.2.1 (ht _ zw_457) dX11_takesAll_110 ?_
          refine W.lcmp hx hb dX11_takesAll_113 ?_
          refine lv_if_ne (tgt := 128) hx hb dX11_takesAll_114 (by decide) (fun h114 => ?_) (fun h114 => ?_)
          · have hg := zn hg h114
            refine lv_aload_n hx hb dX11_takesAll_128 rfl (lv_at hl 0 rfl) ?_
            refine zget (C := RX11) (T := TX11) (N := 31) S hK hP 0 rfl rfl 14 (Nat.le_of_ble_eq_true rfl) zf_11 zw_456 rfl dX11_takesAll_129 ?_
            refine lv_ldc2 (v := 20429043) hx hb S.2.2.2.1 (ht _ zw_458) dX11_takesAll_132 ?_
            refine W.lcmp hx hb dX11_takesAll_135 ?_
            refine lv_if_ne (tgt := 150) hx hb dX11_takesAll_136 (by decide) (fun h136 => ?_) (fun h136 => ?_)
            · have hg := zn hg h136
              refine lv_aload_n hx hb dX11_takesAll_150 rfl (lv_at hl 0 rfl) ?_
              refine zget (C := RX11) (T := TX11) (N := 31) S hK hP 0 rfl rfl 14 (Nat.le_of_ble_eq_true rfl) zf_11 zw_456 rfl dX11_takesAll_151 ?_
              refine lv_ldc2 (v := 2212) hx hb S.2.2.2.1 (ht _ zw_459) dX11_takesAll_154 ?_
              refine W.lcmp hx hb dX11_takesAll_157 ?_
              refine lv_if_ne (tgt := 172) hx hb dX11_takesAll_158 (by decide) (fun h158 => ?_) (fun h158 => ?_)
              · have hg := zn hg h158
                refine lv_aload_n hx hb dX11_takesAll_172 rfl (lv_at hl 0 rfl) ?_
                refine zget (C := RX11) (T := TX11) (N := 31) S hK hP 0 rfl rfl 14 (Nat.le_of_ble_eq_true rfl) zf_11 zw_456 rfl dX11_takesAll_173 ?_
                refine lv_ldc2 (v := 542723566) hx hb S.2.2.2.1 (ht _ zw_460) dX11_takesAll_176 ?_
                refine W.lcmp hx hb dX11_takesAll_179 ?_
                refine lv_if_ne (tgt := 193) hx hb dX11_takesAll_180 (by decide) (fun h180 => ?_) (fun h180 => ?_)
                · have hg := zn hg h180
                  refine lv_aload_n hx hb dX11_takesAll_193 rfl (lv_at hl 0 rfl) ?_
                  refine zget (C := RX11) (T := TX11) (N := 31) S hK hP 0 rfl rfl 14 (Nat.le_of_ble_eq_true rfl) zf_11 zw_456 rfl dX11_takesAll_194 ?_
                  refine lv_ldc2 (v := 656779) hx hb S.2.2.2.1 (ht _ zw_461) dX11_takesAll_197 ?_
                  refine W.lcmp hx hb dX11_takesAll_200 ?_
                  refine lv_if_ne (tgt := 214) hx hb dX11_takesAll_201 (by decide) (fun h201 => ?_) (fun h201 => ?_)
                  · have hg := zn hg h201
                    refine lv_aload_n hx hb dX11_takesAll_214 rfl (lv_at hl 0 rfl) ?_
                    refine zget (C := RX11) (T := TX11) (N := 31) S hK hP 0 rfl rfl 14 (Nat.le_of_ble_eq_true rfl) zf_11 zw_456 rfl dX11_takesAll_215 ?_
                    refine lv_ldc2 (v := 4773) hx hb S.2.2.2.1 (ht _ zw_462) dX11_takesAll_218 ?_
                    refine W.lcmp hx hb dX11_takesAll_221 ?_
                    refine lv_if_ne (tgt := 235) hx hb dX11_takesAll_222 (by decide) (fun h222 => ?_) (fun h222 => ?_)
                    · have hg := zn hg h222
                      refine lv_aload_n hx hb dX11_takesAll_235 rfl (lv_at hl 0 rfl) ?_
                      refine zget (C := RX11) (T := TX11) (N := 31) S hK hP 0 rfl rfl 14 (Nat.le_of_ble_eq_true rfl) zf_11 zw_456 rfl dX11_takesAll_236 ?_
                      refine lv_ldc2 (v := 20225300) hx hb S.2.2.2.1 (ht _ zw_463) dX11_takesAll_239 ?_
                      refine W.lcmp hx hb dX11_takesAll_242 ?_
                      refine lv_if_ne (tgt := 257) hx hb dX11_takesAll_243 (by decide) (fun h243 => ?_) (fun h243 => ?_)
                      · have hg := zn hg h243
                        exact B257 (g_X11_takesAll_91 v_M_size a_M_text a_M_now n) ih x1 v_M_at v_M_begin v_M_kind v_M_value a_M_read _ _ _ hl hP hD hS hg
                      · have hg := zp hg h243
                        refine lv_aload_n hx hb dX11_takesAll_246 rfl (lv_at hl 0 rfl) ?_
                        obtain ⟨v5, hc6, hg⟩ := zbd hg
                        refine zcallV (rest := []) S (c_X11_takesSight l D cI cJ cZ cA ga q_M q_M_read q_M_text (.ref q_M_now) u_M_images u_M_kept u_M_sign u_M_manyAbove u_M_manyBelow u_M_above u_M_below u_M_refused u_M_acts u_M_act u_M_waits u_M_wait u_M_held u_M_place u_M_heap u_M_clocks u_M_counts u_M_talking u_M_most u_M_hasA u_M_hasB u_M_talks u_M_big v_M_size v_M_at v_M_begin v_M_kind v_M_value a_M_read a_M_text v5 hc6) (zgV zw_507 zw_508 zw_509 zw_5 zw_510) rfl hd_X11_takesSight ⟨rfl, rfl⟩ ⟨Nat.le_of_ble_eq_true rfl, Nat.le_of_ble_eq_true rfl⟩ 0 11 rfl rfl rfl hl.1 rfl (Nat.le_of_ble_eq_true rfl) dX11_takesAll_247 hP hD hS hA hK hG (isC := [0, 1, 2]) rfl (by decide +kernel) rfl ⟨Nat.zero_le _, Nat.zero_le _⟩ (pl := [some 0, some 1, some 2, none]) (nw := 4) rfl (by decide +kernel) (w2 := (ws_X11_takesAll cI cJ cZ cA q_M q_M_read q_M_text q_M_now u_M_images u_M_kept u_M_sign u_M_manyAbove u_M_manyBelow u_M_above u_M_below u_M_refused u_M_acts u_M_act u_M_waits u_M_wait u_M_held u_M_place u_M_heap u_M_clocks u_M_counts u_M_talking u_M_most u_M_hasA u_M_hasB u_M_talks u_M_big v_M_size v5.2.1 v5.2.2.1 v5.2.2.2.1 v5.2.2.2.2.1 v5.2.2.2.2.2 a_M_text a_M_now)) rfl (st1 := [.int v5.1]) rfl (fun H locs hP hD hS => ?_)
                        refine lv_if_eq (tgt := 257) hx hb dX11_takesAll_250 (by decide) (fun h250 => ?_) (fun h250 => ?_)
                        · have hg := zp hg h250
                          exact B257 (g_X11_takesAll_91 v_M_size a_M_text a_M_now n) ih x1 v5.2.1 v5.2.2.1 v5.2.2.2.1 v5.2.2.2.2.1 v5.2.2.2.2.2 _ _ _ hl hP hD hS hg
                        · have hg := zn hg h250
                          exact B253 (g_X11_takesAll_91 v_M_size a_M_text a_M_now n) ih x1 v5.2.1 v5.2.2.1 v5.2.2.2.1 v5.2.2.2.2.1 v5.2.2.2.2.2 _ _ _ hl hP hD hS hg
                    · have hg := zp hg h222
                      refine lv_aload_n hx hb dX11_takesAll_225 rfl (lv_at hl 0 rfl) ?_
                      obtain ⟨v7, hc8, hg⟩ := zbd hg
                      refine zcallV (rest := []) S (c_X11_takesDue l D cI cJ cZ cA ga q_M q_M_read q_M_text (.ref q_M_now) u_M_images u_M_kept u_M_sign u_M_manyAbove u_M_manyBelow u_M_above u_M_below u_M_refused u_M_acts u_M_act u_M_waits u_M_wait u_M_held u_M_place u_M_heap u_M_clocks u_M_counts u_M_talking u_M_most u_M_hasA u_M_hasB u_M_talks u_M_big v_M_size v_M_at v_M_begin v_M_kind v_M_value a_M_read a_M_text v7 hc8) (zgV zw_503 zw_504 zw_505 zw_5 zw_506) rfl hd_X11_takesDue ⟨rfl, rfl⟩ ⟨Nat.le_of_ble_eq_true rfl, Nat.le_of_ble_eq_true rfl⟩ 0 11 rfl rfl rfl hl.1 rfl (Nat.le_of_ble_eq_true rfl) dX11_takesAll_226 hP hD hS hA hK hG (isC := [0, 1, 2]) rfl (by decide +kernel) rfl ⟨Nat.zero_le _, Nat.zero_le _⟩ (pl := [some 0, some 1, some 2, none]) (nw := 4) rfl (by decide +kernel) (w2 := (ws_X11_takesAll cI cJ cZ cA q_M q_M_read q_M_text q_M_now u_M_images u_M_kept u_M_sign u_M_manyAbove u_M_manyBelow u_M_above u_M_below u_M_refused u_M_acts u_M_act u_M_waits u_M_wait u_M_held u_M_place u_M_heap u_M_clocks u_M_counts u_M_talking u_M_most u_M_hasA u_M_hasB u_M_talks u_M_big v_M_size v7.2.1 v7.2.2.1 v7.2.2.2.1 v7.2.2.2.2.1 v7.2.2.2.2.2 a_M_text a_M_now)) rfl (st1 := [.int v7.1]) rfl (fun H locs hP hD hS => ?_)
                      refine lv_if_eq (tgt := 257) hx hb dX11_takesAll_229 (by decide) (fun h229 => ?_) (fun h229 => ?_)
                      · have hg := zp hg h229
                        exact B257 (g_X11_takesAll_91 v_M_size a_M_text a_M_now n) ih x1 v7.2.1 v7.2.2.1 v7.2.2.2.1 v7.2.2.2.2.1 v7.2.2.2.2.2 _ _ _ hl hP hD hS hg
                      · have hg := zn hg h229
                        refine lv_goto (tgt := 253) hx hb dX11_takesAll_232 (by decide) ?_
                        exact B253 (g_X11_takesAll_91 v_M_size a_M_text a_M_now n) ih x1 v7.2.1 v7.2.2.1 v7.2.2.2.1 v7.2.2.2.2.1 v7.2.2.2.2.2 _ _ _ hl hP hD hS hg
                  · have hg := zp hg h201
                    refine lv_aload_n hx hb dX11_takesAll_204 rfl (lv_at hl 0 rfl) ?_
                    obtain ⟨v9, hc10, hg⟩ := zbd hg
                    refine zcallV (rest := []) S (c_X11_takesTalk l D cI cJ cZ cA ga q_M q_M_read q_M_text (.ref q_M_now) u_M_images u_M_kept u_M_sign u_M_manyAbove u_M_manyBelow u_M_above u_M_below u_M_refused u_M_acts u_M_act u_M_waits u_M_wait u_M_held u_M_place u_M_heap u_M_clocks u_M_counts u_M_talking u_M_most u_M_hasA u_M_hasB u_M_talks u_M_big v_M_size v_M_at v_M_begin v_M_kind v_M_value a_M_read a_M_text v9 hc10) (zgV zw_499 zw_500 zw_501 zw_5 zw_502) rfl hd_X11_takesTalk ⟨rfl, rfl⟩ ⟨Nat.le_of_ble_eq_true rfl, Nat.le_of_ble_eq_true rfl⟩ 0 11 rfl rfl rfl hl.1 rfl (Nat.le_of_ble_eq_true rfl) dX11_takesAll_205 hP hD hS hA hK hG (isC := [0, 1, 2]) rfl (by decide +kernel) rfl ⟨Nat.zero_le _, Nat.zero_le _⟩ (pl := [some 0, some 1, some 2, none]) (nw := 4) rfl (by decide +kernel) (w2 := (ws_X11_takesAll cI cJ cZ cA q_M q_M_read q_M_text q_M_now u_M_images u_M_kept u_M_sign u_M_manyAbove u_M_manyBelow u_M_above u_M_below u_M_refused u_M_acts u_M_act u_M_waits u_M_wait u_M_held u_M_place u_M_heap u_M_clocks u_M_counts u_M_talking u_M_most u_M_hasA u_M_hasB u_M_talks u_M_big v_M_size v9.2.1 v9.2.2.1 v9.2.2.2.1 v9.2.2.2.2.1 v9.2.2.2.2.2 a_M_text a_M_now)) rfl (st1 := [.int v9.1]) rfl (fun H locs hP hD hS => ?_)
                    refine lv_if_eq (tgt := 257) hx hb dX11_takesAll_208 (by decide) (fun h208 => ?_) (fun h208 => ?_)
                    · have hg := zp hg h208
                      exact B257 (g_X11_takesAll_91 v_M_size a_M_text a_M_now n) ih x1 v9.2.1 v9.2.2.1 v9.2.2.2.1 v9.2.2.2.2.1 v9.2.2.2.2.2 _ _ _ hl hP hD hS hg
                    · have hg := zn hg h208
                      refine lv_goto (tgt := 253) hx hb dX11_takesAll_211 (by decide) ?_
                      exact B253 (g_X11_takesAll_91 v_M_size a_M_text a_M_now n) ih x1 v9.2.1 v9.2.2.1 v9.2.2.2.1 v9.2.2.2.2.1 v9.2.2.2.2.2 _ _ _ hl hP hD hS hg
                · have hg := zp hg h180
                  refine lv_aload_n hx hb dX11_takesAll_183 rfl (lv_at hl 0 rfl) ?_
                  obtain ⟨v11, hc12, hg⟩ := zbd hg
                  refine zcallV (rest := []) S (c_X11_takesPerson l D cI cJ cZ cA ga q_M q_M_read q_M_text (.ref q_M_now) u_M_images u_M_kept u_M_sign u_M_manyAbove u_M_manyBelow u_M_above u_M_below u_M_refused u_M_acts u_M_act u_M_waits u_M_wait u_M_held u_M_place u_M_heap u_M_clocks u_M_counts u_M_talking u_M_most u_M_hasA u_M_hasB u_M_talks u_M_big v_M_size v_M_at v_M_begin v_M_kind v_M_value a_M_read a_M_text v11 hc12) (zgV zw_495 zw_496 zw_497 zw_5 zw_498) rfl hd_X11_takesPerson ⟨rfl, rfl⟩ ⟨Nat.le_of_ble_eq_true rfl, Nat.le_of_ble_eq_true rfl⟩ 0 11 rfl rfl rfl hl.1 rfl (Nat.le_of_ble_eq_true rfl) dX11_takesAll_184 hP hD hS hA hK hG (isC := [0, 1, 2]) rfl (by decide +kernel) rfl ⟨Nat.zero_le _, Nat.zero_le _⟩ (pl := [some 0, some 1, some 2, none]) (nw := 4) rfl (by decide +kernel) (w2 := (ws_X11_takesAll cI cJ cZ cA q_M q_M_read q_M_text q_M_now u_M_images u_M_kept u_M_sign u_M_manyAbove u_M_manyBelow u_M_above u_M_below u_M_refused u_M_acts u_M_act u_M_waits u_M_wait u_M_held u_M_place u_M_heap u_M_clocks u_M_counts u_M_talking u_M_most u_M_hasA u_M_hasB u_M_talks u_M_big v_M_size v11.2.1 v11.2.2.1 v11.2.2.2.1 v11.2.2.2.2.1 v11.2.2.2.2.2 a_M_text a_M_now)) rfl (st1 := [.int v11.1]) rfl (fun H locs hP hD hS => ?_)
                  refine lv_if_eq (tgt := 257) hx hb dX11_takesAll_187 (by decide) (fun h187 => ?_) (fun h187 => ?_)
                  · have hg := zp hg h187
                    exact B257 (g_X11_takesAll_91 v_M_size a_M_text a_M_now n) ih x1 v11.2.1 v11.2.2.1 v11.2.2.2.1 v11.2.2.2.2.1 v11.2.2.2.2.2 _ _ _ hl hP hD hS hg
                  · have hg := zn hg h187
                    refine lv_goto (tgt := 253) hx hb dX11_takesAll_190 (by decide) ?_
                    exact B253 (g_X11_takesAll_91 v_M_size a_M_text a_M_now n) ih x1 v11.2.1 v11.2.2.1 v11.2.2.2.1 v11.2.2.2.2.1 v11.2.2.2.2.2 _ _ _ hl hP hD hS hg
              · have hg := zp hg h158
                refine lv_aload_n hx hb dX11_takesAll_161 rfl (lv_at hl 0 rfl) ?_
                refine lv_iconst (v := 2) hx hb dX11_takesAll_162 (by decide) ?_
                obtain ⟨v13, hc14, hg⟩ := zbd hg
                refine zcallV (rest := []) S (c_X11_takesPut l D cI cJ cZ cA ga q_M q_M_text q_M_read (.ref q_M_now) u_M_images u_M_kept u_M_sign u_M_manyAbove u_M_manyBelow u_M_above u_M_below u_M_refused u_M_acts u_M_act u_M_waits u_M_wait u_M_held u_M_place u_M_heap u_M_clocks u_M_counts u_M_talking u_M_most u_M_hasA u_M_hasB u_M_talks u_M_big v_M_size v_M_at v_M_begin v_M_kind v_M_value a_M_text a_M_read 2 v13 hc14) (zgV zw_483 zw_484 zw_485 zw_5 zw_486) rfl hd_X11_takesPut ⟨rfl, rfl⟩ ⟨Nat.le_of_ble_eq_true rfl, Nat.le_of_ble_eq_true rfl⟩ 0 11 rfl rfl rfl hl.1 rfl (Nat.le_of_ble_eq_true rfl) dX11_takesAll_163 hP hD hS hA hK hG (isC := [0, 2, 1]) rfl (by decide +kernel) rfl ⟨Nat.zero_le _, Nat.zero_le _⟩ (pl := [some 0, some 2, some 1, none]) (nw := 4) rfl (by decide +kernel) (w2 := (ws_X11_takesAll cI cJ cZ cA q_M q_M_read q_M_text q_M_now u_M_images u_M_kept u_M_sign u_M_manyAbove u_M_manyBelow u_M_above u_M_below u_M_refused u_M_acts u_M_act u_M_waits u_M_wait u_M_held u_M_place u_M_heap u_M_clocks u_M_counts u_M_talking u_M_most u_M_hasA u_M_hasB u_M_talks u_M_big v_M_size v13.2.1 v13.2.2.1 v13.2.2.2.1 v13.2.2.2.2.1 v13.2.2.2.2.2 a_M_text a_M_now)) rfl (st1 := [.int v13.1]) rfl (fun H locs hP hD hS => ?_)
                refine lv_if_eq (tgt := 257) hx hb dX11_takesAll_166 (by decide) (fun h166 => ?_) (fun h166 => ?_)
                · have hg := zp hg h166
                  exact B257 (g_X11_takesAll_91 v_M_size a_M_text a_M_now n) ih x1 v13.2.1 v13.2.2.1 v13.2.2.2.1 v13.2.2.2.2.1 v13.2.2.2.2.2 _ _ _ hl hP hD hS hg
                · have hg := zn hg h166
                  refine lv_goto (tgt := 253) hx hb dX11_takesAll_169 (by decide) ?_
                  exact B253 (g_X11_takesAll_91 v_M_size a_M_text a_M_now n) ih x1 v13.2.1 v13.2.2.1 v13.2.2.2.1 v13.2.2.2.2.1 v13.2.2.2.2.2 _ _ _ hl hP hD hS hg
            · have hg := zp hg h136
              refine lv_aload_n hx hb dX11_takesAll_139 rfl (lv_at hl 0 rfl) ?_
              refine lv_iconst (v := 1) hx hb dX11_takesAll_140 (by decide) ?_
              obtain ⟨v15, hc16, hg⟩ := zbd hg
              refine zcallV (rest := []) S (c_X11_takesPut l D cI cJ cZ cA ga q_M q_M_text q_M_read (.ref q_M_now) u_M_images u_M_kept u_M_sign u_M_manyAbove u_M_manyBelow u_M_above u_M_below u_M_refused u_M_acts u_M_act u_M_waits u_M_wait u_M_held u_M_place u_M_heap u_M_clocks u_M_counts u_M_talking u_M_most u_M_hasA u_M_hasB u_M_talks u_M_big v_M_size v_M_at v_M_begin v_M_kind v_M_value a_M_text a_M_read 1 v15 hc16) (zgV zw_483 zw_484 zw_485 zw_5 zw_486) rfl hd_X11_takesPut ⟨rfl, rfl⟩ ⟨Nat.le_of_ble_eq_true rfl, Nat.le_of_ble_eq_true rfl⟩ 0 11 rfl rfl rfl hl.1 rfl (Nat.le_of_ble_eq_true rfl) dX11_takesAll_141 hP hD hS hA hK hG (isC := [0, 2, 1]) rfl (by decide +kernel) rfl ⟨Nat.zero_le _, Nat.zero_le _⟩ (pl := [some 0, some 2, some 1, none]) (nw := 4) rfl (by decide +kernel) (w2 := (ws_X11_takesAll cI cJ cZ cA q_M q_M_read q_M_text q_M_now u_M_images u_M_kept u_M_sign u_M_manyAbove u_M_manyBelow u_M_above u_M_below u_M_refused u_M_acts u_M_act u_M_waits u_M_wait u_M_held u_M_place u_M_heap u_M_clocks u_M_counts u_M_talking u_M_most u_M_hasA u_M_hasB u_M_talks u_M_big v_M_size v15.2.1 v15.2.2.1 v15.2.2.2.1 v15.2.2.2.2.1 v15.2.2.2.2.2 a_M_text a_M_now)) rfl (st1 := [.int v15.1]) rfl (fun H locs hP hD hS => ?_)
              refine lv_if_eq (tgt := 257) hx hb dX11_takesAll_144 (by decide) (fun h144 => ?_) (fun h144 => ?_)
              · have hg := zp hg h144
                exact B257 (g_X11_takesAll_91 v_M_size a_M_text a_M_now n) ih x1 v15.2.1 v15.2.2.1 v15.2.2.2.1 v15.2.2.2.2.1 v15.2.2.2.2.2 _ _ _ hl hP hD hS hg
              · have hg := zn hg h144
                refine lv_goto (tgt := 253) hx hb dX11_takesAll_147 (by decide) ?_
                exact B253 (g_X11_takesAll_91 v_M_size a_M_text a_M_now n) ih x1 v15.2.1 v15.2.2.1 v15.2.2.2.1 v15.2.2.2.2.1 v15.2.2.2.2.2 _ _ _ hl hP hD hS hg
          · have hg := zp hg h114
            refine lv_aload_n hx hb dX11_takesAll_117 rfl (lv_at hl 0 rfl) ?_
            refine lv_iconst (v := 0) hx hb dX11_takesAll_118 (by decide) ?_
            obtain ⟨v17, hc18, hg⟩ := zbd hg
            refine zcallV (rest := []) S (c_X11_takesPut l D cI cJ cZ cA ga q_M q_M_text q_M_read (.ref q_M_now) u_M_images u_M_kept u_M_sign u_M_manyAbove u_M_manyBelow u_M_above u_M_below u_M_refused u_M_acts u_M_act u_M_waits u_M_wait u_M_held u_M_place u_M_heap u_M_clocks u_M_counts u_M_talking u_M_most u_M_hasA u_M_hasB u_M_talks u_M_big v_M_size v_M_at v_M_begin v_M_kind v_M_value a_M_text a_M_read 0 v17 hc18) (zgV zw_483 zw_484 zw_485 zw_5 zw_486) rfl hd_X11_takesPut ⟨rfl, rfl⟩ ⟨Nat.le_of_ble_eq_true rfl, Nat.le_of_ble_eq_true rfl⟩ 0 11 rfl rfl rfl hl.1 rfl (Nat.le_of_ble_eq_true rfl) dX11_takesAll_119 hP hD hS hA hK hG (isC := [0, 2, 1]) rfl (by decide +kernel) rfl ⟨Nat.zero_le _, Nat.zero_le _⟩ (pl := [some 0, some 2, some 1, none]) (nw := 4) rfl (by decide +kernel) (w2 := (ws_X11_takesAll cI cJ cZ cA q_M q_M_read q_M_text q_M_now u_M_images u_M_kept u_M_sign u_M_manyAbove u_M_manyBelow u_M_above u_M_below u_M_refused u_M_acts u_M_act u_M_waits u_M_wait u_M_held u_M_place u_M_heap u_M_clocks u_M_counts u_M_talking u_M_most u_M_hasA u_M_hasB u_M_talks u_M_big v_M_size v17.2.1 v17.2.2.1 v17.2.2.2.1 v17.2.2.2.2.1 v17.2.2.2.2.2 a_M_text a_M_now)) rfl (st1 := [.int v17.1]) rfl (fun H locs hP hD hS => ?_)
            refine lv_if_eq (tgt := 257) hx hb dX11_takesAll_122 (by decide) (fun h122 => ?_) (fun h122 => ?_)
            · have hg := zp hg h122
              exact B257 (g_X11_takesAll_91 v_M_size a_M_text a_M_now n) ih x1 v17.2.1 v17.2.2.1 v17.2.2.2.1 v17.2.2.2.2.1 v17.2.2.2.2.2 _ _ _ hl hP hD hS hg
            · have hg := zn hg h122
              refine lv_goto (tgt := 253) hx hb dX11_takesAll_125 (by decide) ?_
              exact B253 (g_X11_takesAll_91 v_M_size a_M_text a_M_now n) ih x1 v17.2.1 v17.2.2.1 v17.2.2.2.1 v17.2.2.2.2.1 v17.2.2.2.2.2 _ _ _ hl hP hD hS hg
  have B61 : ∀  (n : Nat) (x1 : Int32) (v_M_at : Int32) (v_M_begin : Int32) (v_M_kind : Int32) (v_M_value : Int64) (a_M_read : Nat → Int32) (H : Heap) (locs : List Loc) (ls : Array Slot) (hl : lv_has ls 3 [(0, .ref q_M), (1, .int x1)]) (hP : va_P D vwCl (ws_X11_takesAll cI cJ cZ cA q_M q_M_read q_M_text q_M_now u_M_images u_M_kept u_M_sign u_M_manyAbove u_M_manyBelow u_M_above u_M_below u_M_refused u_M_acts u_M_act u_M_waits u_M_wait u_M_held u_M_place u_M_heap u_M_clocks u_M_counts u_M_talking u_M_most u_M_hasA u_M_hasB u_M_talks u_M_big v_M_size v_M_at v_M_begin v_M_kind v_M_value a_M_read a_M_text a_M_now) H) (hD : va_D A (ws_X11_takesAll cI cJ cZ cA q_M q_M_read q_M_text q_M_now u_M_images u_M_kept u_M_sign u_M_manyAbove u_M_manyBelow u_M_above u_M_below u_M_refused u_M_acts u_M_act u_M_waits u_M_wait u_M_held u_M_place u_M_heap u_M_clocks u_M_counts u_M_talking u_M_most u_M_hasA u_M_hasB u_M_talks u_M_big v_M_size v_M_at v_M_begin v_M_kind v_M_value a_M_read a_M_text a_M_now)) (hS : va_S A s.heap H locs), g_X11_takesAll_61 v_M_size a_M_text a_M_now n x1 v_M_at v_M_begin v_M_kind v_M_value a_M_read = some o → W p l e rm_X11_takesAll s m args below meth c H locs 0 0 Q (F0 m 61 ls []) := by
    intro  n
    induction n with
    | zero => intro x1 v_M_at v_M_begin v_M_kind v_M_value a_M_read H locs ls hl hP hD hS hg; exact nomatch (show (none : Option (Int32 × Int32 × Int32 × Int32 × Int64 × (Nat → Int32))) = some o from hg)
    | succ n ih =>
      intro x1 v_M_at v_M_begin v_M_kind v_M_value a_M_read H locs ls hl hP hD hS hg
      have hg : g_X11_takesAll_61b v_M_size a_M_text a_M_now (g_X11_takesAll_61 v_M_size a_M_text a_M_now n) x1 v_M_at v_M_begin v_M_kind v_M_value a_M_read = some o := hg
      refine lv_iload_n hx hb dX11_takesAll_61 rfl (lv_at hl 1 rfl) ?_
      refine lv_bipush (v := 6) hx hb dX11_takesAll_62 (by decide) ?_
      refine lv_icmp_gt (tgt := 80) hx hb dX11_takesAll_64 (by decide) (fun h64 => ?_) (fun h64 => ?_)
      · have hg := zp hg h64
        refine lv_aload_n hx hb dX11_takesAll_80 rfl (lv_at hl 0 rfl) ?_
        refine lv_iconst (v := 0) hx hb dX11_takesAll_81 (by decide) ?_
        refine zputf (C := RX11) (T := TX11) (N := 31) (ty := .int) S hK hP hD hS 0 rfl rfl 11 (Nat.le_of_ble_eq_true rfl) zf_11 tyX11 tyX11_ok nmX11 zw_454 rfl (by decide +kernel) rfl rfl (Nat.le_of_ble_eq_true rfl) dX11_takesAll_82 (w2 := (ws_X11_takesAll cI cJ cZ cA q_M q_M_read q_M_text q_M_now u_M_images u_M_kept u_M_sign u_M_manyAbove u_M_manyBelow u_M_above u_M_below u_M_refused u_M_acts u_M_act u_M_waits u_M_wait u_M_held u_M_place u_M_heap u_M_clocks u_M_counts u_M_talking u_M_most u_M_hasA u_M_hasB u_M_talks u_M_big v_M_size 0 v_M_begin v_M_kind v_M_value a_M_read a_M_text a_M_now)) rfl (fun H locs hP hD hS => ?_)
        refine lv_iconst (v := 0) hx hb dX11_takesAll_85 (by decide) ?_
        refine lv_istore_n (lv' := [(1, .int 0), (0, .ref q_M)]) hx hb dX11_takesAll_86 rfl hl (by decide) rfl (fun ls hl => ?_)
        refine lv_aload_n hx hb dX11_takesAll_87 rfl (lv_at hl 1 rfl) ?_
        obtain ⟨v1, hc2, hg⟩ := zbd hg
        refine zcallV (rest := []) S (c_X11_next l D cI cJ cZ cA ga q_M q_M_text (.ref q_M_now) u_M_images u_M_kept u_M_sign u_M_manyAbove u_M_manyBelow u_M_above u_M_below u_M_refused (.ref q_M_read) u_M_acts u_M_act u_M_waits u_M_wait u_M_held u_M_place u_M_heap u_M_clocks u_M_counts u_M_talking u_M_most u_M_hasA u_M_hasB u_M_talks u_M_big v_M_size 0 v_M_begin v_M_kind v_M_value a_M_text v1 hc2) (zgV zw_464 zw_465 zw_466 zw_5 zw_467) rfl hd_X11_next ⟨rfl, rfl⟩ ⟨Nat.le_of_ble_eq_true rfl, Nat.le_of_ble_eq_true rfl⟩ 0 11 rfl rfl rfl hl.1 rfl (Nat.le_of_ble_eq_true rfl) dX11_takesAll_88 hP hD hS hA hK hG (isC := [0, 2]) rfl (by decide +kernel) rfl ⟨Nat.zero_le _, Nat.zero_le _⟩ (pl := [some 0, none, some 1, none]) (nw := 4) rfl (by decide +kernel) (w2 := (ws_X11_takesAll cI cJ cZ cA q_M q_M_read q_M_text q_M_now u_M_images u_M_kept u_M_sign u_M_manyAbove u_M_manyBelow u_M_above u_M_below u_M_refused u_M_acts u_M_act u_M_waits u_M_wait u_M_held u_M_place u_M_heap u_M_clocks u_M_counts u_M_talking u_M_most u_M_hasA u_M_hasB u_M_talks u_M_big v_M_size v1.1 v1.2.1 v1.2.2.1 v1.2.2.2 a_M_read a_M_text a_M_now)) rfl (st1 := []) rfl (fun H locs hP hD hS => ?_)
        exact B91 zF 0 v1.1 v1.2.1 v1.2.2.1 v1.2.2.2 a_M_read _ _ _ (lv_sub hl [1, 0] rfl) hP hD hS hg
      · have hg := zn hg h64
        refine lv_aload_n hx hb dX11_takesAll_67 rfl (lv_at hl 0 rfl) ?_
        refine zget (C := RX11) (T := TX11) (N := 31) S hK hP 0 rfl rfl 15 (Nat.le_of_ble_eq_true rfl) zf_11 zw_157 rfl dX11_takesAll_68 ?_
        refine lv_iload_n hx hb dX11_takesAll_71 rfl (lv_at hl 1 rfl) ?_
        refine lv_iconst (v := 0) hx hb dX11_takesAll_72 (by decide) ?_
        obtain ⟨h19, hg⟩ := zck hg
        refine ziast hx hb hK hP hD hS 1 0 rfl rfl (j := (x1.toNatClampNeg)) h19 rfl dX11_takesAll_73 (w2 := (ws_X11_takesAll cI cJ cZ cA q_M q_M_read q_M_text q_M_now u_M_images u_M_kept u_M_sign u_M_manyAbove u_M_manyBelow u_M_above u_M_below u_M_refused u_M_acts u_M_act u_M_waits u_M_wait u_M_held u_M_place u_M_heap u_M_clocks u_M_counts u_M_talking u_M_most u_M_hasA u_M_hasB u_M_talks u_M_big v_M_size v_M_at v_M_begin v_M_kind v_M_value (upd a_M_read (x1.toNatClampNeg) 0) a_M_text a_M_now)) rfl (fun H locs hP hD hS => ?_)
        refine lv_iinc (k := 1) (v := x1 + 1) (lv' := [(1, .int (x1 + 1)), (0, .ref q_M)]) hx hb dX11_takesAll_74 hl rfl (zinc (by decide)) (by decide) rfl (fun ls hl => ?_)
        refine lv_goto (tgt := 61) hx hb dX11_takesAll_77 (by decide) ?_
        exact ih (x1 + 1) v_M_at v_M_begin v_M_kind v_M_value (upd a_M_read (x1.toNatClampNeg) 0) _ _ _ (lv_sub hl [1, 0] rfl) hP hD hS hg
  have B30 : ∀ (k2 : Int32 → Int32 → Int32 → Int32 → Int64 → (Nat → Int32) → Option (Int32 × Int32 × Int32 × Int32 × Int64 × (Nat → Int32))) (hk2 : ∀ (x1 : Int32) (v_M_at : Int32) (v_M_begin : Int32) (v_M_kind : Int32) (v_M_value : Int64) (a_M_read : Nat → Int32) (H : Heap) (locs : List Loc) (ls : Array Slot) (hl : lv_has ls 3 [(0, .ref q_M), (1, .int x1)]) (hP : va_P D vwCl (ws_X11_takesAll cI cJ cZ cA q_M q_M_read q_M_text q_M_now u_M_images u_M_kept u_M_sign u_M_manyAbove u_M_manyBelow u_M_above u_M_below u_M_refused u_M_acts u_M_act u_M_waits u_M_wait u_M_held u_M_place u_M_heap u_M_clocks u_M_counts u_M_talking u_M_most u_M_hasA u_M_hasB u_M_talks u_M_big v_M_size v_M_at v_M_begin v_M_kind v_M_value a_M_read a_M_text a_M_now) H) (hD : va_D A (ws_X11_takesAll cI cJ cZ cA q_M q_M_read q_M_text q_M_now u_M_images u_M_kept u_M_sign u_M_manyAbove u_M_manyBelow u_M_above u_M_below u_M_refused u_M_acts u_M_act u_M_waits u_M_wait u_M_held u_M_place u_M_heap u_M_clocks u_M_counts u_M_talking u_M_most u_M_hasA u_M_hasB u_M_talks u_M_big v_M_size v_M_at v_M_begin v_M_kind v_M_value a_M_read a_M_text a_M_now)) (hS : va_S A s.heap H locs), k2 x1 v_M_at v_M_begin v_M_kind v_M_value a_M_read = some o → W p l e rm_X11_takesAll s m args below meth c H locs 0 0 Q (F0 m 2 ls [])) (x1 : Int32) (t1 : Int32) (t2 : Int32) (v_M_at : Int32) (v_M_begin : Int32) (v_M_kind : Int32) (v_M_value : Int64) (a_M_read : Nat → Int32) (H : Heap) (locs : List Loc) (ls : Array Slot) (hl : lv_has ls 3 [(0, .ref q_M), (1, .int x1)]) (hP : va_P D vwCl (ws_X11_takesAll cI cJ cZ cA q_M q_M_read q_M_text q_M_now u_M_images u_M_kept u_M_sign u_M_manyAbove u_M_manyBelow u_M_above u_M_below u_M_refused u_M_acts u_M_act u_M_waits u_M_wait u_M_held u_M_place u_M_heap u_M_clocks u_M_counts u_M_talking u_M_most u_M_hasA u_M_hasB u_M_talks u_M_big v_M_size v_M_at v_M_begin v_M_kind v_M_value a_M_read a_M_text a_M_now) H) (hD : va_D A (ws_X11_takesAll cI cJ cZ cA q_M q_M_read q_M_text q_M_now u_M_images u_M_kept u_M_sign u_M_manyAbove u_M_manyBelow u_M_above u_M_below u_M_refused u_M_acts u_M_act u_M_waits u_M_wait u_M_held u_M_place u_M_heap u_M_clocks u_M_counts u_M_talking u_M_most u_M_hasA u_M_hasB u_M_talks u_M_big v_M_size v_M_at v_M_begin v_M_kind v_M_value a_M_read a_M_text a_M_now)) (hS : va_S A s.heap H locs), g_X11_takesAll_30 v_M_size a_M_text a_M_now k2 x1 t1 t2 v_M_at v_M_begin v_M_kind v_M_value a_M_read = some o → W p l e rm_X11_takesAll s m args below meth c H locs 0 0 Q (F0 m 30 ls [.int t2, .int t1, .ref q_M_read]) := by
    intro k2 hk2 x1 t1 t2 v_M_at v_M_begin v_M_kind v_M_value a_M_read H locs ls hl hP hD hS hg
    obtain ⟨h20, hg⟩ := zck hg
    refine ziast hx hb hK hP hD hS 1 0 rfl rfl (j := (t1.toNatClampNeg)) h20 rfl dX11_takesAll_30 (w2 := (ws_X11_takesAll cI cJ cZ cA q_M q_M_read q_M_text q_M_now u_M_images u_M_kept u_M_sign u_M_manyAbove u_M_manyBelow u_M_above u_M_below u_M_refused u_M_acts u_M_act u_M_waits u_M_wait u_M_held u_M_place u_M_heap u_M_clocks u_M_counts u_M_talking u_M_most u_M_hasA u_M_hasB u_M_talks u_M_big v_M_size v_M_at v_M_begin v_M_kind v_M_value (upd a_M_read (t1.toNatClampNeg) t2) a_M_text a_M_now)) rfl (fun H locs hP hD hS => ?_)
    refine lv_iinc (k := 1) (v := x1 + 1) (lv' := [(1, .int (x1 + 1)), (0, .ref q_M)]) hx hb dX11_takesAll_31 hl rfl (zinc (by decide)) (by decide) rfl (fun ls hl => ?_)
    refine lv_goto (tgt := 2) hx hb dX11_takesAll_34 (by decide) ?_
    exact hk2 (x1 + 1) v_M_at v_M_begin v_M_kind v_M_value (upd a_M_read (t1.toNatClampNeg) t2) _ _ _ (lv_sub hl [1, 0] rfl) hP hD hS hg
  have B2 : ∀  (n : Nat) (x1 : Int32) (v_M_at : Int32) (v_M_begin : Int32) (v_M_kind : Int32) (v_M_value : Int64) (a_M_read : Nat → Int32) (H : Heap) (locs : List Loc) (ls : Array Slot) (hl : lv_has ls 3 [(0, .ref q_M), (1, .int x1)]) (hP : va_P D vwCl (ws_X11_takesAll cI cJ cZ cA q_M q_M_read q_M_text q_M_now u_M_images u_M_kept u_M_sign u_M_manyAbove u_M_manyBelow u_M_above u_M_below u_M_refused u_M_acts u_M_act u_M_waits u_M_wait u_M_held u_M_place u_M_heap u_M_clocks u_M_counts u_M_talking u_M_most u_M_hasA u_M_hasB u_M_talks u_M_big v_M_size v_M_at v_M_begin v_M_kind v_M_value a_M_read a_M_text a_M_now) H) (hD : va_D A (ws_X11_takesAll cI cJ cZ cA q_M q_M_read q_M_text q_M_now u_M_images u_M_kept u_M_sign u_M_manyAbove u_M_manyBelow u_M_above u_M_below u_M_refused u_M_acts u_M_act u_M_waits u_M_wait u_M_held u_M_place u_M_heap u_M_clocks u_M_counts u_M_talking u_M_most u_M_hasA u_M_hasB u_M_talks u_M_big v_M_size v_M_at v_M_begin v_M_kind v_M_value a_M_read a_M_text a_M_now)) (hS : va_S A s.heap H locs), g_X11_takesAll_2 v_M_size a_M_text a_M_now n x1 v_M_at v_M_begin v_M_kind v_M_value a_M_read = some o → W p l e rm_X11_takesAll s m args below meth c H locs 0 0 Q (F0 m 2 ls []) := by
    intro  n
    induction n with
    | zero => intro x1 v_M_at v_M_begin v_M_kind v_M_value a_M_read H locs ls hl hP hD hS hg; exact nomatch (show (none : Option (Int32 × Int32 × Int32 × Int32 × Int64 × (Nat → Int32))) = some o from hg)
    | succ n ih =>
      intro x1 v_M_at v_M_begin v_M_kind v_M_value a_M_read H locs ls hl hP hD hS hg
      have hg : g_X11_takesAll_2b v_M_size a_M_text a_M_now (g_X11_takesAll_2 v_M_size a_M_text a_M_now n) x1 v_M_at v_M_begin v_M_kind v_M_value a_M_read = some o := hg
      refine lv_iload_n hx hb dX11_takesAll_2 rfl (lv_at hl 1 rfl) ?_
      refine lv_sipush (v := 155) hx hb dX11_takesAll_3 (by decide) ?_
      refine lv_icmp_ge (tgt := 37) hx hb dX11_takesAll_6 (by decide) (fun h6 => ?_) (fun h6 => ?_)
      · have hg := zp hg h6
        refine lv_aload_n hx hb dX11_takesAll_37 rfl (lv_at hl 0 rfl) ?_
        refine zget (C := RX11) (T := TX11) (N := 31) S hK hP 0 rfl rfl 15 (Nat.le_of_ble_eq_true rfl) zf_11 zw_157 rfl dX11_takesAll_38 ?_
        refine lv_iconst (v := 0) hx hb dX11_takesAll_41 (by decide) ?_
        refine lv_iconst (v := 1) hx hb dX11_takesAll_42 (by decide) ?_
        refine ziast hx hb hK hP hD hS 1 0 rfl rfl (j := 0) (zin (by decide)) (by decide) dX11_takesAll_43 (w2 := (ws_X11_takesAll cI cJ cZ cA q_M q_M_read q_M_text q_M_now u_M_images u_M_kept u_M_sign u_M_manyAbove u_M_manyBelow u_M_above u_M_below u_M_refused u_M_acts u_M_act u_M_waits u_M_wait u_M_held u_M_place u_M_heap u_M_clocks u_M_counts u_M_talking u_M_most u_M_hasA u_M_hasB u_M_talks u_M_big v_M_size v_M_at v_M_begin v_M_kind v_M_value (upd a_M_read 0 1) a_M_text a_M_now)) rfl (fun H locs hP hD hS => ?_)
        refine lv_aload_n hx hb dX11_takesAll_44 rfl (lv_at hl 0 rfl) ?_
        refine zget (C := RX11) (T := TX11) (N := 31) S hK hP 0 rfl rfl 15 (Nat.le_of_ble_eq_true rfl) zf_11 zw_157 rfl dX11_takesAll_45 ?_
        refine lv_iconst (v := 1) hx hb dX11_takesAll_48 (by decide) ?_
        refine lv_iconst (v := 0) hx hb dX11_takesAll_49 (by decide) ?_
        refine ziast hx hb hK hP hD hS 1 0 rfl rfl (j := 1) (zin (by decide)) (by decide) dX11_takesAll_50 (w2 := (ws_X11_takesAll cI cJ cZ cA q_M q_M_read q_M_text q_M_now u_M_images u_M_kept u_M_sign u_M_manyAbove u_M_manyBelow u_M_above u_M_below u_M_refused u_M_acts u_M_act u_M_waits u_M_wait u_M_held u_M_place u_M_heap u_M_clocks u_M_counts u_M_talking u_M_most u_M_hasA u_M_hasB u_M_talks u_M_big v_M_size v_M_at v_M_begin v_M_kind v_M_value (upd (upd a_M_read 0 1) 1 0) a_M_text a_M_now)) rfl (fun H locs hP hD hS => ?_)
        refine lv_aload_n hx hb dX11_takesAll_51 rfl (lv_at hl 0 rfl) ?_
        refine zget (C := RX11) (T := TX11) (N := 31) S hK hP 0 rfl rfl 15 (Nat.le_of_ble_eq_true rfl) zf_11 zw_157 rfl dX11_takesAll_52 ?_
        refine lv_iconst (v := 2) hx hb dX11_takesAll_55 (by decide) ?_
        refine lv_bipush (v := 60) hx hb dX11_takesAll_56 (by decide) ?_
        refine ziast hx hb hK hP hD hS 1 0 rfl rfl (j := 2) (zin (by decide)) (by decide) dX11_takesAll_58 (w2 := (ws_X11_takesAll cI cJ cZ cA q_M q_M_read q_M_text q_M_now u_M_images u_M_kept u_M_sign u_M_manyAbove u_M_manyBelow u_M_above u_M_below u_M_refused u_M_acts u_M_act u_M_waits u_M_wait u_M_held u_M_place u_M_heap u_M_clocks u_M_counts u_M_talking u_M_most u_M_hasA u_M_hasB u_M_talks u_M_big v_M_size v_M_at v_M_begin v_M_kind v_M_value (upd (upd (upd a_M_read 0 1) 1 0) 2 60) a_M_text a_M_now)) rfl (fun H locs hP hD hS => ?_)
        refine lv_iconst (v := 3) hx hb dX11_takesAll_59 (by decide) ?_
        refine lv_istore_n (lv' := [(1, .int 3), (0, .ref q_M)]) hx hb dX11_takesAll_60 rfl hl (by decide) rfl (fun ls hl => ?_)
        exact B61 zF 3 v_M_at v_M_begin v_M_kind v_M_value (upd (upd (upd a_M_read 0 1) 1 0) 2 60) _ _ _ (lv_sub hl [1, 0] rfl) hP hD hS hg
      · have hg := zn hg h6
        refine lv_aload_n hx hb dX11_takesAll_9 rfl (lv_at hl 0 rfl) ?_
        refine zget (C := RX11) (T := TX11) (N := 31) S hK hP 0 rfl rfl 15 (Nat.le_of_ble_eq_true rfl) zf_11 zw_157 rfl dX11_takesAll_10 ?_
        refine lv_iload_n hx hb dX11_takesAll_13 rfl (lv_at hl 1 rfl) ?_
        refine lv_iload_n hx hb dX11_takesAll_14 rfl (lv_at hl 1 rfl) ?_
        refine lv_bipush (v := 13) hx hb dX11_takesAll_15 (by decide) ?_
        refine lv_icmp_ge (tgt := 29) hx hb dX11_takesAll_17 (by decide) (fun h17 => ?_) (fun h17 => ?_)
        · have hg := zp hg h17
          refine lv_iconst (v := 0) hx hb dX11_takesAll_29 (by decide) ?_
          exact B30 (g_X11_takesAll_2 v_M_size a_M_text a_M_now n) ih x1 x1 0 v_M_at v_M_begin v_M_kind v_M_value a_M_read _ _ _ hl hP hD hS hg
        · have hg := zn hg h17
          refine lv_aload_n hx hb dX11_takesAll_20 rfl (lv_at hl 0 rfl) ?_
          refine zget (C := RX11) (T := TX11) (N := 31) S hK hP 0 rfl rfl 0 (Nat.le_of_ble_eq_true rfl) zf_11 zw_149 rfl dX11_takesAll_21 ?_
          refine lv_iload_n hx hb dX11_takesAll_24 rfl (lv_at hl 1 rfl) ?_
          obtain ⟨h21, hg⟩ := zck hg
          refine ziald hx hb hK hP 3 0 rfl rfl (j := (x1.toNatClampNeg)) h21 rfl dX11_takesAll_25 ?_
          refine lv_goto (tgt := 30) hx hb dX11_takesAll_26 (by decide) ?_
          exact B30 (g_X11_takesAll_2 v_M_size a_M_text a_M_now n) ih x1 x1 (a_M_now (x1.toNatClampNeg)) v_M_at v_M_begin v_M_kind v_M_value a_M_read _ _ _ hl hP hD hS hg
  refine lv_iconst (v := 0) hx hb dX11_takesAll_0 (by decide) ?_
  refine lv_istore_n (lv' := [(1, .int 0), (0, .ref q_M)]) hx hb dX11_takesAll_1 rfl hl (by decide) rfl (fun ls hl => ?_)
  exact B2 zF 0 v_M_at v_M_begin v_M_kind v_M_value a_M_read _ _ _ (lv_sub hl [1, 0] rfl) hP hD hS hg

/-! SpokenClockModel.read()I -/
abbrev ws_X11_read (cI cJ cZ cA : ClassId) (q_M q_M_read q_M_text q_M_now : Nat) (u_M_images : Value) (u_M_kept : Value) (u_M_sign : Value) (u_M_manyAbove : Value) (u_M_manyBelow : Value) (u_M_above : Value) (u_M_below : Value) (u_M_refused : Value) (u_M_acts : Value) (u_M_act : Value) (u_M_waits : Value) (u_M_wait : Value) (u_M_held : Value) (u_M_place : Value) (u_M_heap : Value) (u_M_clocks : Value) (u_M_counts : Value) (u_M_talking : Value) (u_M_most : Value) (u_M_hasA : Value) (u_M_hasB : Value) (u_M_talks : Value) (u_M_big : Value) (v_M_size : Int32) (v_M_at : Int32) (v_M_begin : Int32) (v_M_kind : Int32) (v_M_value : Int64) (a_M_read : Nat → Int32) (a_M_text : Nat → Int32) (a_M_now : Nat → Int32) : va_W := [(q_M, .inr (11, [.ref q_M_now, u_M_images, u_M_kept, .ref q_M_text, .int v_M_size, u_M_sign, u_M_manyAbove, u_M_manyBelow, u_M_above, u_M_below, u_M_refused, .int v_M_at, .int v_M_begin, .int v_M_kind, .long v_M_value, .ref q_M_read, u_M_acts, u_M_act, u_M_waits, u_M_wait, u_M_held, u_M_place, u_M_heap, u_M_clocks, u_M_counts, u_M_talking, u_M_most, u_M_hasA, u_M_hasB, u_M_talks, u_M_big])), (q_M_read, .inl (cI, 155, .inl a_M_read)), (q_M_text, .inl (cI, 250, .inl a_M_text)), (q_M_now, .inl (cI, 155, .inl a_M_now))]
abbrev rm_X11_read : Room := { frames := 6, cells := 0, slots := 0, locals := 132 }
def g_X11_read_19b (v_M_size : Int32) (a_M_text : Nat → Int32) (k19 : Int32 → Int32 → Int32 → Int32 → Int32 → Int64 → (Nat → Int32) → (Nat → Int32) → Option (Int32 × Int32 × Int32 × Int32 × Int64 × (Nat → Int32) × (Nat → Int32))) (x1 : Int32) (x2 : Int32) (v_M_at : Int32) (v_M_begin : Int32) (v_M_kind : Int32) (v_M_value : Int64) (a_M_read : Nat → Int32) (a_M_now : Nat → Int32) : Option (Int32 × Int32 × Int32 × Int32 × Int64 × (Nat → Int32) × (Nat → Int32)) :=
  if 115 ≤ x2 then (
    some (x1, v_M_at, v_M_begin, v_M_kind, v_M_value, a_M_read, a_M_now)
  ) else (
    if x2 < 0 ∨ 155 ≤ x2.toNatClampNeg then none else
    if x2 < 0 ∨ 155 ≤ x2.toNatClampNeg then none else
    k19 x1 (x2 + 1) v_M_at v_M_begin v_M_kind v_M_value a_M_read (upd a_M_now (x2.toNatClampNeg) (a_M_read (x2.toNatClampNeg)))
  )
def g_X11_read_19 (v_M_size : Int32) (a_M_text : Nat → Int32) : Nat → Int32 → Int32 → Int32 → Int32 → Int32 → Int64 → (Nat → Int32) → (Nat → Int32) → Option (Int32 × Int32 × Int32 × Int32 × Int64 × (Nat → Int32) × (Nat → Int32))
  | 0, _, _, _, _, _, _, _, _ => none
  | n + 1, x1, x2, v_M_at, v_M_begin, v_M_kind, v_M_value, a_M_read, a_M_now => g_X11_read_19b v_M_size a_M_text (g_X11_read_19 v_M_size a_M_text n) x1 x2 v_M_at v_M_begin v_M_kind v_M_value a_M_read a_M_now
def g_X11_read (v_M_size : Int32) (a_M_text : Nat → Int32) (v_M_at : Int32) (v_M_begin : Int32) (v_M_kind : Int32) (v_M_value : Int64) (a_M_read : Nat → Int32) (a_M_now : Nat → Int32) : Option (Int32 × Int32 × Int32 × Int32 × Int64 × (Nat → Int32) × (Nat → Int32)) :=
  (g_X11_takesAll v_M_size a_M_text a_M_now v_M_at v_M_begin v_M_kind v_M_value a_M_read).bind fun v1 =>
  if 0 ≤ v1.1 then (
    g_X11_read_19 v_M_size a_M_text zF v1.1 0 v1.2.1 v1.2.2.1 v1.2.2.2.1 v1.2.2.2.2.1 v1.2.2.2.2.2 a_M_now
  ) else (
    some ((-10) - v1.2.2.1, v1.2.1, v1.2.2.1, v1.2.2.2.1, v1.2.2.2.2.1, v1.2.2.2.2.2, a_M_now)
  )
theorem hd_X11_read : yX11_read.cls = RX11 ∧ yX11_read.cls ≠ "java/lang/invoke/MethodHandle" ∧ yX11_read.cls ≠ "java/lang/invoke/VarHandle" ∧ (parseMethodDescriptor yX11_read.desc).map (fun d => d.parameters.length) = some 0 := by decide +kernel
set_option maxHeartbeats 4000000 in
set_option maxRecDepth 100000 in
theorem c_X11_read (l : Launch) (D : va_G) (cI cJ cZ cA : ClassId) (ga : Nat → Nat) (q_M q_M_read q_M_text q_M_now : Nat) (u_M_images : Value) (u_M_kept : Value) (u_M_sign : Value) (u_M_manyAbove : Value) (u_M_manyBelow : Value) (u_M_above : Value) (u_M_below : Value) (u_M_refused : Value) (u_M_acts : Value) (u_M_act : Value) (u_M_waits : Value) (u_M_wait : Value) (u_M_held : Value) (u_M_place : Value) (u_M_heap : Value) (u_M_clocks : Value) (u_M_counts : Value) (u_M_talking : Value) (u_M_most : Value) (u_M_hasA : Value) (u_M_hasB : Value) (u_M_talks : Value) (u_M_big : Value) (v_M_size : Int32) (v_M_at : Int32) (v_M_begin : Int32) (v_M_kind : Int32) (v_M_value : Int64) (a_M_read : Nat → Int32) (a_M_text : Nat → Int32) (a_M_now : Nat → Int32) (o : Int32 × Int32 × Int32 × Int32 × Int64 × (Nat → Int32) × (Nat → Int32)) (hg : g_X11_read v_M_size a_M_text v_M_at v_M_begin v_M_kind v_M_value a_M_read a_M_now = some o) : zM l yX11_read (Cond.code yX11_read cX11_read 3 (some .int) :: wsL_law) rm_X11_read D (zTy cI cJ cZ cA) ga [.ref q_M] (ws_X11_read cI cJ cZ cA q_M q_M_read q_M_text q_M_now u_M_images u_M_kept u_M_sign u_M_manyAbove u_M_manyBelow u_M_above u_M_below u_M_refused u_M_acts u_M_act u_M_waits u_M_wait u_M_held u_M_place u_M_heap u_M_clocks u_M_counts u_M_talking u_M_most u_M_hasA u_M_hasB u_M_talks u_M_big v_M_size v_M_at v_M_begin v_M_kind v_M_value a_M_read a_M_text a_M_now) (ws_X11_read cI cJ cZ cA q_M q_M_read q_M_text q_M_now u_M_images u_M_kept u_M_sign u_M_manyAbove u_M_manyBelow u_M_above u_M_below u_M_refused u_M_acts u_M_act u_M_waits u_M_wait u_M_held u_M_place u_M_heap u_M_clocks u_M_counts u_M_talking u_M_most u_M_hasA u_M_hasB u_M_talks u_M_big v_M_size o.2.1 o.2.2.1 o.2.2.2.1 o.2.2.2.2.1 o.2.2.2.2.2.1 a_M_text o.2.2.2.2.2.2) (some (.int o.1)) := by
  refine zenterI (own := RX11) (by decide) rfl rfl (Nat.le_of_ble_eq_true rfl) ?_
  intro p e s m args below meth c A ls Q S hA hK hG hl hP hD hS hret0
  have hx := S.1
  have hb := S.2.1
  have ht : ∀ w, w ∈ wsL_law → w.before args s = true := fun w h => S.2.2.2.2 w (List.mem_cons_of_mem _ h)
  have hret : ∀ (r9 : Int32) (v_M_at : Int32) (v_M_begin : Int32) (v_M_kind : Int32) (v_M_value : Int64) (a_M_read : Nat → Int32) (a_M_now : Nat → Int32), (some (r9, v_M_at, v_M_begin, v_M_kind, v_M_value, a_M_read, a_M_now) : Option (Int32 × Int32 × Int32 × Int32 × Int64 × (Nat → Int32) × (Nat → Int32))) = some o → ∀ (H : Heap) (locs : List Loc) (pc : Nat) (ls : Array Slot), va_P D vwCl (ws_X11_read cI cJ cZ cA q_M q_M_read q_M_text q_M_now u_M_images u_M_kept u_M_sign u_M_manyAbove u_M_manyBelow u_M_above u_M_below u_M_refused u_M_acts u_M_act u_M_waits u_M_wait u_M_held u_M_place u_M_heap u_M_clocks u_M_counts u_M_talking u_M_most u_M_hasA u_M_hasB u_M_talks u_M_big v_M_size v_M_at v_M_begin v_M_kind v_M_value a_M_read a_M_text a_M_now) H → va_S A s.heap H locs → decode cX11_read pc = .ok (.ireturn, 1) → W p l e rm_X11_read s m args below meth c H locs 0 0 Q (F0 m pc ls [.int r9]) := by
    intro r9 v_M_at v_M_begin v_M_kind v_M_value a_M_read a_M_now he; cases he; exact hret0
  have hl : lv_has ls 3 [(0, .ref q_M)] := hl
  have B19 : ∀  (n : Nat) (x1 : Int32) (x2 : Int32) (v_M_at : Int32) (v_M_begin : Int32) (v_M_kind : Int32) (v_M_value : Int64) (a_M_read : Nat → Int32) (a_M_now : Nat → Int32) (H : Heap) (locs : List Loc) (ls : Array Slot) (hl : lv_has ls 3 [(0, .ref q_M), (1, .int x1), (2, .int x2)]) (hP : va_P D vwCl (ws_X11_read cI cJ cZ cA q_M q_M_read q_M_text q_M_now u_M_images u_M_kept u_M_sign u_M_manyAbove u_M_manyBelow u_M_above u_M_below u_M_refused u_M_acts u_M_act u_M_waits u_M_wait u_M_held u_M_place u_M_heap u_M_clocks u_M_counts u_M_talking u_M_most u_M_hasA u_M_hasB u_M_talks u_M_big v_M_size v_M_at v_M_begin v_M_kind v_M_value a_M_read a_M_text a_M_now) H) (hD : va_D A (ws_X11_read cI cJ cZ cA q_M q_M_read q_M_text q_M_now u_M_images u_M_kept u_M_sign u_M_manyAbove u_M_manyBelow u_M_above u_M_below u_M_refused u_M_acts u_M_act u_M_waits u_M_wait u_M_held u_M_place u_M_heap u_M_clocks u_M_counts u_M_talking u_M_most u_M_hasA u_M_hasB u_M_talks u_M_big v_M_size v_M_at v_M_begin v_M_kind v_M_value a_M_read a_M_text a_M_now)) (hS : va_S A s.heap H locs), g_X11_read_19 v_M_size a_M_text n x1 x2 v_M_at v_M_begin v_M_kind v_M_value a_M_read a_M_now = some o → W p l e rm_X11_read s m args below meth c H locs 0 0 Q (F0 m 19 ls []) := by
    intro  n
    induction n with
    | zero => intro x1 x2 v_M_at v_M_begin v_M_kind v_M_value a_M_read a_M_now H locs ls hl hP hD hS hg; exact nomatch (show (none : Option (Int32 × Int32 × Int32 × Int32 × Int64 × (Nat → Int32) × (Nat → Int32))) = some o from hg)
    | succ n ih =>
      intro x1 x2 v_M_at v_M_begin v_M_kind v_M_value a_M_read a_M_now H locs ls hl hP hD hS hg
      have hg : g_X11_read_19b v_M_size a_M_text (g_X11_read_19 v_M_size a_M_text n) x1 x2 v_M_at v_M_begin v_M_kind v_M_value a_M_read a_M_now = some o := hg
      refine lv_iload_n hx hb dX11_read_19 rfl (lv_at hl 2 rfl) ?_
      refine lv_bipush (v := 115) hx hb dX11_read_20 (by decide) ?_
      refine lv_icmp_ge (tgt := 43) hx hb dX11_read_22 (by decide) (fun h22 => ?_) (fun h22 => ?_)
      · have hg := zp hg h22
        refine lv_iload_n hx hb dX11_read_43 rfl (lv_at hl 1 rfl) ?_
        exact hret x1 v_M_at v_M_begin v_M_kind v_M_value a_M_read a_M_now hg _ _ _ _ hP hS dX11_read_44
      · have hg := zn hg h22
        refine lv_aload_n hx hb dX11_read_25 rfl (lv_at hl 0 rfl) ?_
        refine zget (C := RX11) (T := TX11) (N := 31) S hK hP 0 rfl rfl 0 (Nat.le_of_ble_eq_true rfl) zf_11 zw_149 rfl dX11_read_26 ?_
        refine lv_iload_n hx hb dX11_read_29 rfl (lv_at hl 2 rfl) ?_
        refine lv_aload_n hx hb dX11_read_30 rfl (lv_at hl 0 rfl) ?_
        refine zget (C := RX11) (T := TX11) (N := 31) S hK hP 0 rfl rfl 15 (Nat.le_of_ble_eq_true rfl) zf_11 zw_157 rfl dX11_read_31 ?_
        refine lv_iload_n hx hb dX11_read_34 rfl (lv_at hl 2 rfl) ?_
        obtain ⟨h3, hg⟩ := zck hg
        refine ziald hx hb hK hP 1 0 rfl rfl (j := (x2.toNatClampNeg)) h3 rfl dX11_read_35 ?_
        obtain ⟨h4, hg⟩ := zck hg
        refine ziast hx hb hK hP hD hS 3 0 rfl rfl (j := (x2.toNatClampNeg)) h4 rfl dX11_read_36 (w2 := (ws_X11_read cI cJ cZ cA q_M q_M_read q_M_text q_M_now u_M_images u_M_kept u_M_sign u_M_manyAbove u_M_manyBelow u_M_above u_M_below u_M_refused u_M_acts u_M_act u_M_waits u_M_wait u_M_held u_M_place u_M_heap u_M_clocks u_M_counts u_M_talking u_M_most u_M_hasA u_M_hasB u_M_talks u_M_big v_M_size v_M_at v_M_begin v_M_kind v_M_value a_M_read a_M_text (upd a_M_now (x2.toNatClampNeg) (a_M_read (x2.toNatClampNeg))))) rfl (fun H locs hP hD hS => ?_)
        refine lv_iinc (k := 2) (v := x2 + 1) (lv' := [(2, .int (x2 + 1)), (0, .ref q_M), (1, .int x1)]) hx hb dX11_read_37 hl rfl (zinc (by decide)) (by decide) rfl (fun ls hl => ?_)
        refine lv_goto (tgt := 19) hx hb dX11_read_40 (by decide) ?_
        exact ih x1 (x2 + 1) v_M_at v_M_begin v_M_kind v_M_value a_M_read (upd a_M_now (x2.toNatClampNeg) (a_M_read (x2.toNatClampNeg))) _ _ _ (lv_sub hl [1, 2, 0] rfl) hP hD hS hg
  refine lv_aload_n hx hb dX11_read_0 rfl (lv_at hl 0 rfl) ?_
  obtain ⟨v1, hc2, hg⟩ := zbd hg
  refine zcallV (rest := []) S (c_X11_takesAll l D cI cJ cZ cA ga q_M q_M_read q_M_text q_M_now u_M_images u_M_kept u_M_sign u_M_manyAbove u_M_manyBelow u_M_above u_M_below u_M_refused u_M_acts u_M_act u_M_waits u_M_wait u_M_held u_M_place u_M_heap u_M_clocks u_M_counts u_M_talking u_M_most u_M_hasA u_M_hasB u_M_talks u_M_big v_M_size v_M_at v_M_begin v_M_kind v_M_value a_M_read a_M_text a_M_now v1 hc2) (zgV zw_450 zw_451 zw_452 zw_5 zw_453) rfl hd_X11_takesAll ⟨rfl, rfl⟩ ⟨Nat.le_of_ble_eq_true rfl, Nat.le_of_ble_eq_true rfl⟩ 0 11 rfl rfl rfl hl.1 rfl (Nat.le_of_ble_eq_true rfl) dX11_read_1 hP hD hS hA hK hG (isC := [0, 1, 2, 3]) rfl (by decide +kernel) rfl ⟨Nat.zero_le _, Nat.zero_le _⟩ (pl := [some 0, some 1, some 2, some 3]) (nw := 4) rfl (by decide +kernel) (w2 := (ws_X11_read cI cJ cZ cA q_M q_M_read q_M_text q_M_now u_M_images u_M_kept u_M_sign u_M_manyAbove u_M_manyBelow u_M_above u_M_below u_M_refused u_M_acts u_M_act u_M_waits u_M_wait u_M_held u_M_place u_M_heap u_M_clocks u_M_counts u_M_talking u_M_most u_M_hasA u_M_hasB u_M_talks u_M_big v_M_size v1.2.1 v1.2.2.1 v1.2.2.2.1 v1.2.2.2.2.1 v1.2.2.2.2.2 a_M_text a_M_now)) rfl (st1 := [.int v1.1]) rfl (fun H locs hP hD hS => ?_)
  refine lv_istore_n (lv' := [(1, .int v1.1), (0, .ref q_M)]) hx hb dX11_read_4 rfl hl (by decide) rfl (fun ls hl => ?_)
  refine lv_iload_n hx hb dX11_read_5 rfl (lv_at hl 0 rfl) ?_
  refine lv_if_ge (tgt := 17) hx hb dX11_read_6 (by decide) (fun h6 => ?_) (fun h6 => ?_)
  · have hg := zp hg h6
    refine lv_iconst (v := 0) hx hb dX11_read_17 (by decide) ?_
    refine lv_istore_n (lv' := [(2, .int 0), (1, .int v1.1), (0, .ref q_M)]) hx hb dX11_read_18 rfl hl (by decide) rfl (fun ls hl => ?_)
    exact B19 zF v1.1 0 v1.2.1 v1.2.2.1 v1.2.2.2.1 v1.2.2.2.2.1 v1.2.2.2.2.2 a_M_now _ _ _ (lv_sub hl [2, 1, 0] rfl) hP hD hS hg
  · have hg := zn hg h6
    refine lv_bipush (v := (-10)) hx hb dX11_read_9 (by decide) ?_
    refine lv_aload_n hx hb dX11_read_11 rfl (lv_at hl 1 rfl) ?_
    refine zget (C := RX11) (T := TX11) (N := 31) S hK hP 0 rfl rfl 12 (Nat.le_of_ble_eq_true rfl) zf_11 zw_449 rfl dX11_read_12 ?_
    refine lv_isub hx hb dX11_read_15 ?_
    exact hret ((-10) - v1.2.2.1) v1.2.1 v1.2.2.1 v1.2.2.2.1 v1.2.2.2.2.1 v1.2.2.2.2.2 a_M_now hg _ _ _ _ hP hS dX11_read_16

/-! SpokenClockModel.write(I)I -/
abbrev ws_X11_write (cI cJ cZ cA : ClassId) (q_M q_M_now q_M_refused : Nat) (u_M_images : Value) (u_M_kept : Value) (u_M_text : Value) (u_M_size : Value) (u_M_sign : Value) (u_M_manyAbove : Value) (u_M_manyBelow : Value) (u_M_above : Value) (u_M_below : Value) (u_M_at : Value) (u_M_begin : Value) (u_M_kind : Value) (u_M_value : Value) (u_M_read : Value) (u_M_acts : Value) (u_M_act : Value) (u_M_waits : Value) (u_M_wait : Value) (u_M_held : Value) (u_M_place : Value) (u_M_heap : Value) (u_M_clocks : Value) (u_M_counts : Value) (u_M_talking : Value) (u_M_most : Value) (u_M_hasA : Value) (u_M_hasB : Value) (u_M_talks : Value) (u_M_big : Value) (a_M_now : Nat → Int32) (a_M_refused : Nat → Int32) : va_W := [(q_M, .inr (11, [.ref q_M_now, u_M_images, u_M_kept, u_M_text, u_M_size, u_M_sign, u_M_manyAbove, u_M_manyBelow, u_M_above, u_M_below, .ref q_M_refused, u_M_at, u_M_begin, u_M_kind, u_M_value, u_M_read, u_M_acts, u_M_act, u_M_waits, u_M_wait, u_M_held, u_M_place, u_M_heap, u_M_clocks, u_M_counts, u_M_talking, u_M_most, u_M_hasA, u_M_hasB, u_M_talks, u_M_big])), (q_M_now, .inl (cI, 155, .inl a_M_now)), (q_M_refused, .inl (cI, 3, .inl a_M_refused))]
abbrev rm_X11_write : Room := { frames := 1, cells := 0, slots := 0, locals := 25 }
def g_X11_write (x1 : Int32) (a_M_now : Nat → Int32) (a_M_refused : Nat → Int32) : Option (Int32 × (Nat → Int32) × (Nat → Int32)) :=
  (g_X11_in x1.toInt64 (0 : Int64) (127 : Int64)).bind fun v1 =>
  if v1 = 0 then (
    (g_X11_refuse (-2) a_M_refused).bind fun v6 =>
    some (v6.1, a_M_now, v6.2)
  ) else (
    if (a_M_now 7) = 40 then (
      (g_X11_refuse (-4) a_M_refused).bind fun v4 =>
      some (v4.1, a_M_now, v4.2)
    ) else (
      if (115 + (a_M_now 7)) < 0 ∨ 155 ≤ (115 + (a_M_now 7)).toNatClampNeg then none else
      some ((upd (upd a_M_now ((115 + (a_M_now 7)).toNatClampNeg) x1) 7 (((upd a_M_now ((115 + (a_M_now 7)).toNatClampNeg) x1) 7) + 1)) 7, upd (upd a_M_now ((115 + (a_M_now 7)).toNatClampNeg) x1) 7 (((upd a_M_now ((115 + (a_M_now 7)).toNatClampNeg) x1) 7) + 1), a_M_refused)
    )
  )
theorem hd_X11_write : yX11_write.cls = RX11 ∧ yX11_write.cls ≠ "java/lang/invoke/MethodHandle" ∧ yX11_write.cls ≠ "java/lang/invoke/VarHandle" ∧ (parseMethodDescriptor yX11_write.desc).map (fun d => d.parameters.length) = some 1 := by decide +kernel
set_option maxHeartbeats 4000000 in
set_option maxRecDepth 100000 in
theorem c_X11_write (l : Launch) (D : va_G) (cI cJ cZ cA : ClassId) (ga : Nat → Nat) (q_M q_M_now q_M_refused : Nat) (u_M_images : Value) (u_M_kept : Value) (u_M_text : Value) (u_M_size : Value) (u_M_sign : Value) (u_M_manyAbove : Value) (u_M_manyBelow : Value) (u_M_above : Value) (u_M_below : Value) (u_M_at : Value) (u_M_begin : Value) (u_M_kind : Value) (u_M_value : Value) (u_M_read : Value) (u_M_acts : Value) (u_M_act : Value) (u_M_waits : Value) (u_M_wait : Value) (u_M_held : Value) (u_M_place : Value) (u_M_heap : Value) (u_M_clocks : Value) (u_M_counts : Value) (u_M_talking : Value) (u_M_most : Value) (u_M_hasA : Value) (u_M_hasB : Value) (u_M_talks : Value) (u_M_big : Value) (a_M_now : Nat → Int32) (a_M_refused : Nat → Int32) (x1 : Int32) (o : Int32 × (Nat → Int32) × (Nat → Int32)) (hg : g_X11_write x1 a_M_now a_M_refused = some o) : zM l yX11_write (Cond.code yX11_write cX11_write 2 (some .int) :: wsL_law) rm_X11_write D (zTy cI cJ cZ cA) ga [.ref q_M, .int x1] (ws_X11_write cI cJ cZ cA q_M q_M_now q_M_refused u_M_images u_M_kept u_M_text u_M_size u_M_sign u_M_manyAbove u_M_manyBelow u_M_above u_M_below u_M_at u_M_begin u_M_kind u_M_value u_M_read u_M_acts u_M_act u_M_waits u_M_wait u_M_held u_M_place u_M_heap u_M_clocks u_M_counts u_M_talking u_M_most u_M_hasA u_M_hasB u_M_talks u_M_big a_M_now a_M_refused) (ws_X11_write cI cJ cZ cA q_M q_M_now q_M_refused u_M_images u_M_kept u_M_text u_M_size u_M_sign u_M_manyAbove u_M_manyBelow u_M_above u_M_below u_M_at u_M_begin u_M_kind u_M_value u_M_read u_M_acts u_M_act u_M_waits u_M_wait u_M_held u_M_place u_M_heap u_M_clocks u_M_counts u_M_talking u_M_most u_M_hasA u_M_hasB u_M_talks u_M_big o.2.1 o.2.2) (some (.int o.1)) := by
  refine zenterI (own := RX11) (by decide) rfl rfl (Nat.le_of_ble_eq_true rfl) ?_
  intro p e s m args below meth c A ls Q S hA hK hG hl hP hD hS hret0
  have hx := S.1
  have hb := S.2.1
  have ht : ∀ w, w ∈ wsL_law → w.before args s = true := fun w h => S.2.2.2.2 w (List.mem_cons_of_mem _ h)
  have hret : ∀ (r9 : Int32) (a_M_now : Nat → Int32) (a_M_refused : Nat → Int32), (some (r9, a_M_now, a_M_refused) : Option (Int32 × (Nat → Int32) × (Nat → Int32))) = some o → ∀ (H : Heap) (locs : List Loc) (pc : Nat) (ls : Array Slot), va_P D vwCl (ws_X11_write cI cJ cZ cA q_M q_M_now q_M_refused u_M_images u_M_kept u_M_text u_M_size u_M_sign u_M_manyAbove u_M_manyBelow u_M_above u_M_below u_M_at u_M_begin u_M_kind u_M_value u_M_read u_M_acts u_M_act u_M_waits u_M_wait u_M_held u_M_place u_M_heap u_M_clocks u_M_counts u_M_talking u_M_most u_M_hasA u_M_hasB u_M_talks u_M_big a_M_now a_M_refused) H → va_S A s.heap H locs → decode cX11_write pc = .ok (.ireturn, 1) → W p l e rm_X11_write s m args below meth c H locs 0 0 Q (F0 m pc ls [.int r9]) := by
    intro r9 a_M_now a_M_refused he; cases he; exact hret0
  have hl : lv_has ls 2 [(0, .ref q_M), (1, .int x1)] := hl
  refine lv_iload_n hx hb dX11_write_0 rfl (lv_at hl 1 rfl) ?_
  refine lv_i2l hx hb dX11_write_1 rfl ?_
  refine lv_lconst (v := 0) hx hb dX11_write_2 (by decide) ?_
  refine lv_ldc2 (v := 127) hx hb S.2.2.2.1 (ht _ zw_520) dX11_write_3 ?_
  obtain ⟨v1, hc2, hg⟩ := zbd hg
  refine zcallS (rest := []) S (c_X11_in l D cI cJ cZ cA ga x1.toInt64 (0 : Int64) (127 : Int64) v1 hc2) (zgS zw_220 zw_221 zw_5 zw_222) rfl hd_X11_in ⟨rfl, rfl⟩ ⟨Nat.le_of_ble_eq_true rfl, Nat.le_of_ble_eq_true rfl⟩ rfl hl.1 rfl (Nat.le_of_ble_eq_true rfl) dX11_write_6 hP hD hS hA hK hG (isC := []) rfl (by decide +kernel) rfl ⟨Nat.zero_le _, Nat.zero_le _⟩ (pl := [none, none, none]) (nw := 3) rfl (by decide +kernel) (w2 := (ws_X11_write cI cJ cZ cA q_M q_M_now q_M_refused u_M_images u_M_kept u_M_text u_M_size u_M_sign u_M_manyAbove u_M_manyBelow u_M_above u_M_below u_M_at u_M_begin u_M_kind u_M_value u_M_read u_M_acts u_M_act u_M_waits u_M_wait u_M_held u_M_place u_M_heap u_M_clocks u_M_counts u_M_talking u_M_most u_M_hasA u_M_hasB u_M_talks u_M_big a_M_now a_M_refused)) rfl (st1 := [.int v1]) rfl (fun H locs hP hD hS => ?_)
  refine lv_if_ne (tgt := 19) hx hb dX11_write_9 (by decide) (fun h9 => ?_) (fun h9 => ?_)
  · have hg := zn hg h9
    refine lv_aload_n hx hb dX11_write_19 rfl (lv_at hl 0 rfl) ?_
    refine zget (C := RX11) (T := TX11) (N := 31) S hK hP 0 rfl rfl 0 (Nat.le_of_ble_eq_true rfl) zf_11 zw_149 rfl dX11_write_20 ?_
    refine lv_bipush (v := 7) hx hb dX11_write_23 (by decide) ?_
    refine ziald hx hb hK hP 1 0 rfl rfl (j := 7) (zin (by decide)) (by decide) dX11_write_25 ?_
    refine lv_bipush (v := 40) hx hb dX11_write_26 (by decide) ?_
    refine lv_icmp_ne (tgt := 38) hx hb dX11_write_28 (by decide) (fun h28 => ?_) (fun h28 => ?_)
    · have hg := zn hg h28
      refine lv_aload_n hx hb dX11_write_38 rfl (lv_at hl 0 rfl) ?_
      refine zget (C := RX11) (T := TX11) (N := 31) S hK hP 0 rfl rfl 0 (Nat.le_of_ble_eq_true rfl) zf_11 zw_149 rfl dX11_write_39 ?_
      refine lv_bipush (v := 115) hx hb dX11_write_42 (by decide) ?_
      refine lv_aload_n hx hb dX11_write_44 rfl (lv_at hl 0 rfl) ?_
      refine zget (C := RX11) (T := TX11) (N := 31) S hK hP 0 rfl rfl 0 (Nat.le_of_ble_eq_true rfl) zf_11 zw_149 rfl dX11_write_45 ?_
      refine lv_bipush (v := 7) hx hb dX11_write_48 (by decide) ?_
      refine ziald hx hb hK hP 1 0 rfl rfl (j := 7) (zin (by decide)) (by decide) dX11_write_50 ?_
      refine lv_iadd hx hb dX11_write_51 ?_
      refine lv_iload_n hx hb dX11_write_52 rfl (lv_at hl 1 rfl) ?_
      obtain ⟨h3, hg⟩ := zck hg
      refine ziast hx hb hK hP hD hS 1 0 rfl rfl (j := ((115 + (a_M_now 7)).toNatClampNeg)) h3 rfl dX11_write_53 (w2 := (ws_X11_write cI cJ cZ cA q_M q_M_now q_M_refused u_M_images u_M_kept u_M_text u_M_size u_M_sign u_M_manyAbove u_M_manyBelow u_M_above u_M_below u_M_at u_M_begin u_M_kind u_M_value u_M_read u_M_acts u_M_act u_M_waits u_M_wait u_M_held u_M_place u_M_heap u_M_clocks u_M_counts u_M_talking u_M_most u_M_hasA u_M_hasB u_M_talks u_M_big (upd a_M_now ((115 + (a_M_now 7)).toNatClampNeg) x1) a_M_refused)) rfl (fun H locs hP hD hS => ?_)
      refine lv_aload_n hx hb dX11_write_54 rfl (lv_at hl 0 rfl) ?_
      refine zget (C := RX11) (T := TX11) (N := 31) S hK hP 0 rfl rfl 0 (Nat.le_of_ble_eq_true rfl) zf_11 zw_149 rfl dX11_write_55 ?_
      refine lv_bipush (v := 7) hx hb dX11_write_58 (by decide) ?_
      refine lv_dup2_11 hx hb dX11_write_60 rfl rfl ?_
      refine ziald hx hb hK hP 1 0 rfl rfl (j := 7) (zin (by decide)) (by decide) dX11_write_61 ?_
      refine lv_iconst (v := 1) hx hb dX11_write_62 (by decide) ?_
      refine lv_iadd hx hb dX11_write_63 ?_
      refine ziast hx hb hK hP hD hS 1 0 rfl rfl (j := 7) (zin (by decide)) (by decide) dX11_write_64 (w2 := (ws_X11_write cI cJ cZ cA q_M q_M_now q_M_refused u_M_images u_M_kept u_M_text u_M_size u_M_sign u_M_manyAbove u_M_manyBelow u_M_above u_M_below u_M_at u_M_begin u_M_kind u_M_value u_M_read u_M_acts u_M_act u_M_waits u_M_wait u_M_held u_M_place u_M_heap u_M_clocks u_M_counts u_M_talking u_M_most u_M_hasA u_M_hasB u_M_talks u_M_big (upd (upd a_M_now ((115 + (a_M_now 7)).toNatClampNeg) x1) 7 (((upd a_M_now ((115 + (a_M_now 7)).toNatClampNeg) x1) 7) + 1)) a_M_refused)) rfl (fun H locs hP hD hS => ?_)
      refine lv_aload_n hx hb dX11_write_65 rfl (lv_at hl 0 rfl) ?_
      refine zget (C := RX11) (T := TX11) (N := 31) S hK hP 0 rfl rfl 0 (Nat.le_of_ble_eq_true rfl) zf_11 zw_149 rfl dX11_write_66 ?_
      refine lv_bipush (v := 7) hx hb dX11_write_69 (by decide) ?_
      refine ziald hx hb hK hP 1 0 rfl rfl (j := 7) (zin (by decide)) (by decide) dX11_write_71 ?_
      exact hret ((upd (upd a_M_now ((115 + (a_M_now 7)).toNatClampNeg) x1) 7 (((upd a_M_now ((115 + (a_M_now 7)).toNatClampNeg) x1) 7) + 1)) 7) (upd (upd a_M_now ((115 + (a_M_now 7)).toNatClampNeg) x1) 7 (((upd a_M_now ((115 + (a_M_now 7)).toNatClampNeg) x1) 7) + 1)) a_M_refused hg _ _ _ _ hP hS dX11_write_72
    · have hg := zp hg h28
      refine lv_aload_n hx hb dX11_write_31 rfl (lv_at hl 0 rfl) ?_
      refine lv_bipush (v := (-4)) hx hb dX11_write_32 (by decide) ?_
      obtain ⟨v4, hc5, hg⟩ := zbd hg
      refine zcallV (rest := []) S (c_X11_refuse l D cI cJ cZ cA ga q_M q_M_refused (.ref q_M_now) u_M_images u_M_kept u_M_text u_M_size u_M_sign u_M_manyAbove u_M_manyBelow u_M_above u_M_below u_M_at u_M_begin u_M_kind u_M_value u_M_read u_M_acts u_M_act u_M_waits u_M_wait u_M_held u_M_place u_M_heap u_M_clocks u_M_counts u_M_talking u_M_most u_M_hasA u_M_hasB u_M_talks u_M_big a_M_refused (-4) v4 hc5) (zgV zw_223 zw_224 zw_225 zw_5 zw_226) rfl hd_X11_refuse ⟨rfl, rfl⟩ ⟨Nat.le_of_ble_eq_true rfl, Nat.le_of_ble_eq_true rfl⟩ 0 11 rfl rfl rfl hl.1 rfl (Nat.le_of_ble_eq_true rfl) dX11_write_34 hP hD hS hA hK hG (isC := [0, 2]) rfl (by decide +kernel) rfl ⟨Nat.zero_le _, Nat.zero_le _⟩ (pl := [some 0, none, some 1]) (nw := 3) rfl (by decide +kernel) (w2 := (ws_X11_write cI cJ cZ cA q_M q_M_now q_M_refused u_M_images u_M_kept u_M_text u_M_size u_M_sign u_M_manyAbove u_M_manyBelow u_M_above u_M_below u_M_at u_M_begin u_M_kind u_M_value u_M_read u_M_acts u_M_act u_M_waits u_M_wait u_M_held u_M_place u_M_heap u_M_clocks u_M_counts u_M_talking u_M_most u_M_hasA u_M_hasB u_M_talks u_M_big a_M_now v4.2)) rfl (st1 := [.int v4.1]) rfl (fun H locs hP hD hS => ?_)
      exact hret v4.1 a_M_now v4.2 hg _ _ _ _ hP hS dX11_write_37
  · have hg := zp hg h9
    refine lv_aload_n hx hb dX11_write_12 rfl (lv_at hl 0 rfl) ?_
    refine lv_bipush (v := (-2)) hx hb dX11_write_13 (by decide) ?_
    obtain ⟨v6, hc7, hg⟩ := zbd hg
    refine zcallV (rest := []) S (c_X11_refuse l D cI cJ cZ cA ga q_M q_M_refused (.ref q_M_now) u_M_images u_M_kept u_M_text u_M_size u_M_sign u_M_manyAbove u_M_manyBelow u_M_above u_M_below u_M_at u_M_begin u_M_kind u_M_value u_M_read u_M_acts u_M_act u_M_waits u_M_wait u_M_held u_M_place u_M_heap u_M_clocks u_M_counts u_M_talking u_M_most u_M_hasA u_M_hasB u_M_talks u_M_big a_M_refused (-2) v6 hc7) (zgV zw_223 zw_224 zw_225 zw_5 zw_226) rfl hd_X11_refuse ⟨rfl, rfl⟩ ⟨Nat.le_of_ble_eq_true rfl, Nat.le_of_ble_eq_true rfl⟩ 0 11 rfl rfl rfl hl.1 rfl (Nat.le_of_ble_eq_true rfl) dX11_write_15 hP hD hS hA hK hG (isC := [0, 2]) rfl (by decide +kernel) rfl ⟨Nat.zero_le _, Nat.zero_le _⟩ (pl := [some 0, none, some 1]) (nw := 3) rfl (by decide +kernel) (w2 := (ws_X11_write cI cJ cZ cA q_M q_M_now q_M_refused u_M_images u_M_kept u_M_text u_M_size u_M_sign u_M_manyAbove u_M_manyBelow u_M_above u_M_below u_M_at u_M_begin u_M_kind u_M_value u_M_read u_M_acts u_M_act u_M_waits u_M_wait u_M_held u_M_place u_M_heap u_M_clocks u_M_counts u_M_talking u_M_most u_M_hasA u_M_hasB u_M_talks u_M_big a_M_now v6.2)) rfl (st1 := [.int v6.1]) rfl (fun H locs hP hD hS => ?_)
    exact hret v6.1 a_M_now v6.2 hg _ _ _ _ hP hS dX11_write_18

/-! SpokenClockModel.erase()I -/
abbrev ws_X11_erase (cI cJ cZ cA : ClassId) (q_M q_M_now : Nat) (u_M_images : Value) (u_M_kept : Value) (u_M_text : Value) (u_M_size : Value) (u_M_sign : Value) (u_M_manyAbove : Value) (u_M_manyBelow : Value) (u_M_above : Value) (u_M_below : Value) (u_M_refused : Value) (u_M_at : Value) (u_M_begin : Value) (u_M_kind : Value) (u_M_value : Value) (u_M_read : Value) (u_M_acts : Value) (u_M_act : Value) (u_M_waits : Value) (u_M_wait : Value) (u_M_held : Value) (u_M_place : Value) (u_M_heap : Value) (u_M_clocks : Value) (u_M_counts : Value) (u_M_talking : Value) (u_M_most : Value) (u_M_hasA : Value) (u_M_hasB : Value) (u_M_talks : Value) (u_M_big : Value) (a_M_now : Nat → Int32) : va_W := [(q_M, .inr (11, [.ref q_M_now, u_M_images, u_M_kept, u_M_text, u_M_size, u_M_sign, u_M_manyAbove, u_M_manyBelow, u_M_above, u_M_below, u_M_refused, u_M_at, u_M_begin, u_M_kind, u_M_value, u_M_read, u_M_acts, u_M_act, u_M_waits, u_M_wait, u_M_held, u_M_place, u_M_heap, u_M_clocks, u_M_counts, u_M_talking, u_M_most, u_M_hasA, u_M_hasB, u_M_talks, u_M_big])), (q_M_now, .inl (cI, 155, .inl a_M_now))]
abbrev rm_X11_erase : Room := { frames := 0, cells := 0, slots := 0, locals := 0 }
def g_X11_erase (a_M_now : Nat → Int32) : Option (Int32 × (Nat → Int32)) :=
  some (a_M_now 7, upd a_M_now 7 0)
theorem hd_X11_erase : yX11_erase.cls = RX11 ∧ yX11_erase.cls ≠ "java/lang/invoke/MethodHandle" ∧ yX11_erase.cls ≠ "java/lang/invoke/VarHandle" ∧ (parseMethodDescriptor yX11_erase.desc).map (fun d => d.parameters.length) = some 0 := by decide +kernel
set_option maxHeartbeats 4000000 in
set_option maxRecDepth 100000 in
theorem c_X11_erase (l : Launch) (D : va_G) (cI cJ cZ cA : ClassId) (ga : Nat → Nat) (q_M q_M_now : Nat) (u_M_images : Value) (u_M_kept : Value) (u_M_text : Value) (u_M_size : Value) (u_M_sign : Value) (u_M_manyAbove : Value) (u_M_manyBelow : Value) (u_M_above : Value) (u_M_below : Value) (u_M_refused : Value) (u_M_at : Value) (u_M_begin : Value) (u_M_kind : Value) (u_M_value : Value) (u_M_read : Value) (u_M_acts : Value) (u_M_act : Value) (u_M_waits : Value) (u_M_wait : Value) (u_M_held : Value) (u_M_place : Value) (u_M_heap : Value) (u_M_clocks : Value) (u_M_counts : Value) (u_M_talking : Value) (u_M_most : Value) (u_M_hasA : Value) (u_M_hasB : Value) (u_M_talks : Value) (u_M_big : Value) (a_M_now : Nat → Int32) (o : Int32 × (Nat → Int32)) (hg : g_X11_erase a_M_now = some o) : zM l yX11_erase (Cond.code yX11_erase cX11_erase 2 (some .int) :: wsL_law) rm_X11_erase D (zTy cI cJ cZ cA) ga [.ref q_M] (ws_X11_erase cI cJ cZ cA q_M q_M_now u_M_images u_M_kept u_M_text u_M_size u_M_sign u_M_manyAbove u_M_manyBelow u_M_above u_M_below u_M_refused u_M_at u_M_begin u_M_kind u_M_value u_M_read u_M_acts u_M_act u_M_waits u_M_wait u_M_held u_M_place u_M_heap u_M_clocks u_M_counts u_M_talking u_M_most u_M_hasA u_M_hasB u_M_talks u_M_big a_M_now) (ws_X11_erase cI cJ cZ cA q_M q_M_now u_M_images u_M_kept u_M_text u_M_size u_M_sign u_M_manyAbove u_M_manyBelow u_M_above u_M_below u_M_refused u_M_at u_M_begin u_M_kind u_M_value u_M_read u_M_acts u_M_act u_M_waits u_M_wait u_M_held u_M_place u_M_heap u_M_clocks u_M_counts u_M_talking u_M_most u_M_hasA u_M_hasB u_M_talks u_M_big o.2) (some (.int o.1)) := by
  refine zenterI (own := RX11) (by decide) rfl rfl (Nat.le_of_ble_eq_true rfl) ?_
  intro p e s m args below meth c A ls Q S hA hK hG hl hP hD hS hret0
  have hx := S.1
  have hb := S.2.1
  have ht : ∀ w, w ∈ wsL_law → w.before args s = true := fun w h => S.2.2.2.2 w (List.mem_cons_of_mem _ h)
  have hret : ∀ (r9 : Int32) (a_M_now : Nat → Int32), (some (r9, a_M_now) : Option (Int32 × (Nat → Int32))) = some o → ∀ (H : Heap) (locs : List Loc) (pc : Nat) (ls : Array Slot), va_P D vwCl (ws_X11_erase cI cJ cZ cA q_M q_M_now u_M_images u_M_kept u_M_text u_M_size u_M_sign u_M_manyAbove u_M_manyBelow u_M_above u_M_below u_M_refused u_M_at u_M_begin u_M_kind u_M_value u_M_read u_M_acts u_M_act u_M_waits u_M_wait u_M_held u_M_place u_M_heap u_M_clocks u_M_counts u_M_talking u_M_most u_M_hasA u_M_hasB u_M_talks u_M_big a_M_now) H → va_S A s.heap H locs → decode cX11_erase pc = .ok (.ireturn, 1) → W p l e rm_X11_erase s m args below meth c H locs 0 0 Q (F0 m pc ls [.int r9]) := by
    intro r9 a_M_now he; cases he; exact hret0
  have hl : lv_has ls 2 [(0, .ref q_M)] := hl
  refine lv_aload_n hx hb dX11_erase_0 rfl (lv_at hl 0 rfl) ?_
  refine zget (C := RX11) (T := TX11) (N := 31) S hK hP 0 rfl rfl 0 (Nat.le_of_ble_eq_true rfl) zf_11 zw_149 rfl dX11_erase_1 ?_
  refine lv_bipush (v := 7) hx hb dX11_erase_4 (by decide) ?_
  refine ziald hx hb hK hP 1 0 rfl rfl (j := 7) (zin (by decide)) (by decide) dX11_erase_6 ?_
  refine lv_istore_n (lv' := [(1, .int (a_M_now 7)), (0, .ref q_M)]) hx hb dX11_erase_7 rfl hl (by decide) rfl (fun ls hl => ?_)
  refine lv_aload_n hx hb dX11_erase_8 rfl (lv_at hl 1 rfl) ?_
  refine zget (C := RX11) (T := TX11) (N := 31) S hK hP 0 rfl rfl 0 (Nat.le_of_ble_eq_true rfl) zf_11 zw_149 rfl dX11_erase_9 ?_
  refine lv_bipush (v := 7) hx hb dX11_erase_12 (by decide) ?_
  refine lv_iconst (v := 0) hx hb dX11_erase_14 (by decide) ?_
  refine ziast hx hb hK hP hD hS 1 0 rfl rfl (j := 7) (zin (by decide)) (by decide) dX11_erase_15 (w2 := (ws_X11_erase cI cJ cZ cA q_M q_M_now u_M_images u_M_kept u_M_text u_M_size u_M_sign u_M_manyAbove u_M_manyBelow u_M_above u_M_below u_M_refused u_M_at u_M_begin u_M_kind u_M_value u_M_read u_M_acts u_M_act u_M_waits u_M_wait u_M_held u_M_place u_M_heap u_M_clocks u_M_counts u_M_talking u_M_most u_M_hasA u_M_hasB u_M_talks u_M_big (upd a_M_now 7 0))) rfl (fun H locs hP hD hS => ?_)
  refine lv_iload_n hx hb dX11_erase_16 rfl (lv_at hl 0 rfl) ?_
  exact hret (a_M_now 7) (upd a_M_now 7 0) hg _ _ _ _ hP hS dX11_erase_17

/-! SpokenClockModel.holds(I)I -/
abbrev ws_X11_holds (cI cJ cZ cA : ClassId) : va_W := []
abbrev rm_X11_holds : Room := { frames := 0, cells := 0, slots := 0, locals := 0 }
def g_X11_holds_48 (x0 : Int32) : Option (Int32) :=
  some (3)
def g_X11_holds_64 (x0 : Int32) : Option (Int32) :=
  some (4)
def g_X11_holds_80 (x0 : Int32) : Option (Int32) :=
  some (5)
def g_X11_holds (x0 : Int32) : Option (Int32) :=
  if x0 = 40 then (
    some (0)
  ) else (
    if x0 = 124 then (
      some (1)
    ) else (
      if x0 = 38 then (
        some (2)
      ) else (
        if x0 = 60 then (
          g_X11_holds_48 x0
        ) else (
          if x0 = 62 then (
            g_X11_holds_48 x0
          ) else (
            if x0 = 61 then (
              g_X11_holds_48 x0
            ) else (
              if x0 = 43 then (
                g_X11_holds_64 x0
              ) else (
                if x0 = 45 then (
                  g_X11_holds_64 x0
                ) else (
                  if x0 = 42 then (
                    g_X11_holds_80 x0
                  ) else (
                    if x0 = 47 then (
                      g_X11_holds_80 x0
                    ) else (
                      some (6)
                    )
                  )
                )
              )
            )
          )
        )
      )
    )
  )
theorem hd_X11_holds : yX11_holds.cls ≠ "java/lang/invoke/MethodHandle" ∧ yX11_holds.cls ≠ "java/lang/invoke/VarHandle" ∧ (parseMethodDescriptor yX11_holds.desc).map (fun d => d.parameters.length) = some 1 := by decide +kernel
set_option maxHeartbeats 4000000 in
set_option maxRecDepth 100000 in
theorem c_X11_holds (l : Launch) (D : va_G) (cI cJ cZ cA : ClassId) (ga : Nat → Nat) (x0 : Int32) (o : Int32) (hg : g_X11_holds x0 = some o) : zM l yX11_holds (Cond.code yX11_holds cX11_holds 1 (some .int) :: wsL_law) rm_X11_holds D (zTy cI cJ cZ cA) ga [.int x0] (ws_X11_holds cI cJ cZ cA) (ws_X11_holds cI cJ cZ cA) (some (.int o)) := by
  refine zenterI (own := RX11) (by decide) rfl rfl (Nat.le_of_ble_eq_true rfl) ?_
  intro p e s m args below meth c A ls Q S hA hK hG hl hP hD hS hret0
  have hx := S.1
  have hb := S.2.1
  have ht : ∀ w, w ∈ wsL_law → w.before args s = true := fun w h => S.2.2.2.2 w (List.mem_cons_of_mem _ h)
  have hret : ∀ (r9 : Int32), (some (r9) : Option (Int32)) = some o → ∀ (H : Heap) (locs : List Loc) (pc : Nat) (ls : Array Slot), va_P D vwCl (ws_X11_holds cI cJ cZ cA) H → va_S A s.heap H locs → decode cX11_holds pc = .ok (.ireturn, 1) → W p l e rm_X11_holds s m args below meth c H locs 0 0 Q (F0 m pc ls [.int r9]) := by
    intro r9 he; cases he; exact hret0
  have hl : lv_has ls 1 [(0, .int x0)] := hl
  have B48 : ∀  (H : Heap) (locs : List Loc) (ls : Array Slot) (hl : lv_has ls 1 []) (hP : va_P D vwCl (ws_X11_holds cI cJ cZ cA) H) (hD : va_D A (ws_X11_holds cI cJ cZ cA)) (hS : va_S A s.heap H locs), g_X11_holds_48 x0 = some o → W p l e rm_X11_holds s m args below meth c H locs 0 0 Q (F0 m 48 ls []) := by
    intro   H locs ls hl hP hD hS hg
    refine lv_iconst (v := 3) hx hb dX11_holds_48 (by decide) ?_
    refine lv_goto (tgt := 86) hx hb dX11_holds_49 (by decide) ?_
    exact hret 3 hg _ _ _ _ hP hS dX11_holds_86
  have B64 : ∀  (H : Heap) (locs : List Loc) (ls : Array Slot) (hl : lv_has ls 1 []) (hP : va_P D vwCl (ws_X11_holds cI cJ cZ cA) H) (hD : va_D A (ws_X11_holds cI cJ cZ cA)) (hS : va_S A s.heap H locs), g_X11_holds_64 x0 = some o → W p l e rm_X11_holds s m args below meth c H locs 0 0 Q (F0 m 64 ls []) := by
    intro   H locs ls hl hP hD hS hg
    refine lv_iconst (v := 4) hx hb dX11_holds_64 (by decide) ?_
    refine lv_goto (tgt := 86) hx hb dX11_holds_65 (by decide) ?_
    exact hret 4 hg _ _ _ _ hP hS dX11_holds_86
  have B80 : ∀  (H : Heap) (locs : List Loc) (ls : Array Slot) (hl : lv_has ls 1 []) (hP : va_P D vwCl (ws_X11_holds cI cJ cZ cA) H) (hD : va_D A (ws_X11_holds cI cJ cZ cA)) (hS : va_S A s.heap H locs), g_X11_holds_80 x0 = some o → W p l e rm_X11_holds s m args below meth c H locs 0 0 Q (F0 m 80 ls []) := by
    intro   H locs ls hl hP hD hS hg
    refine lv_iconst (v := 5) hx hb dX11_holds_80 (by decide) ?_
    refine lv_goto (tgt := 86) hx hb dX11_holds_81 (by decide) ?_
    exact hret 5 hg _ _ _ _ hP hS dX11_holds_86
  refine lv_iload_n hx hb dX11_holds_0 rfl (lv_at hl 0 rfl) ?_
  refine lv_bipush (v := 40) hx hb dX11_holds_1 (by decide) ?_
  refine lv_icmp_ne (tgt := 10) hx hb dX11_holds_3 (by decide) (fun h3 => ?_) (fun h3 => ?_)
  · have hg := zn hg h3
    refine lv_iload_n hx hb dX11_holds_10 rfl (lv_at hl 0 rfl) ?_
    refine lv_bipush (v := 124) hx hb dX11_holds_11 (by decide) ?_
    refine lv_icmp_ne (tgt := 20) hx hb dX11_holds_13 (by decide) (fun h13 => ?_) (fun h13 => ?_)
    · have hg := zn hg h13
      refine lv_iload_n hx hb dX11_holds_20 rfl (lv_at hl 0 rfl) ?_
      refine lv_bipush (v := 38) hx hb dX11_holds_21 (by decide) ?_
      refine lv_icmp_ne (tgt := 30) hx hb dX11_holds_23 (by decide) (fun h23 => ?_) (fun h23 => ?_)
      · have hg := zn hg h23
        refine lv_iload_n hx hb dX11_holds_30 rfl (lv_at hl 0 rfl) ?_
        refine lv_bipush (v := 60) hx hb dX11_holds_31 (by decide) ?_
        refine lv_icmp_eq (tgt := 48) hx hb dX11_holds_33 (by decide) (fun h33 => ?_) (fun h33 => ?_)
        · have hg := zp hg h33
          exact B48  _ _ _ (lv_sub hl [] rfl) hP hD hS hg
        · have hg := zn hg h33
          refine lv_iload_n hx hb dX11_holds_36 rfl (lv_at hl 0 rfl) ?_
          refine lv_bipush (v := 62) hx hb dX11_holds_37 (by decide) ?_
          refine lv_icmp_eq (tgt := 48) hx hb dX11_holds_39 (by decide) (fun h39 => ?_) (fun h39 => ?_)
          · have hg := zp hg h39
            exact B48  _ _ _ (lv_sub hl [] rfl) hP hD hS hg
          · have hg := zn hg h39
            refine lv_iload_n hx hb dX11_holds_42 rfl (lv_at hl 0 rfl) ?_
            refine lv_bipush (v := 61) hx hb dX11_holds_43 (by decide) ?_
            refine lv_icmp_ne (tgt := 52) hx hb dX11_holds_45 (by decide) (fun h45 => ?_) (fun h45 => ?_)
            · have hg := zn hg h45
              refine lv_iload_n hx hb dX11_holds_52 rfl (lv_at hl 0 rfl) ?_
              refine lv_bipush (v := 43) hx hb dX11_holds_53 (by decide) ?_
              refine lv_icmp_eq (tgt := 64) hx hb dX11_holds_55 (by decide) (fun h55 => ?_) (fun h55 => ?_)
              · have hg := zp hg h55
                exact B64  _ _ _ (lv_sub hl [] rfl) hP hD hS hg
              · have hg := zn hg h55
                refine lv_iload_n hx hb dX11_holds_58 rfl (lv_at hl 0 rfl) ?_
                refine lv_bipush (v := 45) hx hb dX11_holds_59 (by decide) ?_
                refine lv_icmp_ne (tgt := 68) hx hb dX11_holds_61 (by decide) (fun h61 => ?_) (fun h61 => ?_)
                · have hg := zn hg h61
                  refine lv_iload_n hx hb dX11_holds_68 rfl (lv_at hl 0 rfl) ?_
                  refine lv_bipush (v := 42) hx hb dX11_holds_69 (by decide) ?_
                  refine lv_icmp_eq (tgt := 80) hx hb dX11_holds_71 (by decide) (fun h71 => ?_) (fun h71 => ?_)
                  · have hg := zp hg h71
                    exact B80  _ _ _ (lv_sub hl [] rfl) hP hD hS hg
                  · have hg := zn hg h71
                    refine lv_iload_n hx hb dX11_holds_74 rfl (lv_at hl 0 rfl) ?_
                    refine lv_bipush (v := 47) hx hb dX11_holds_75 (by decide) ?_
                    refine lv_icmp_ne (tgt := 84) hx hb dX11_holds_77 (by decide) (fun h77 => ?_) (fun h77 => ?_)
                    · have hg := zn hg h77
                      refine lv_bipush (v := 6) hx hb dX11_holds_84 (by decide) ?_
                      exact hret 6 hg _ _ _ _ hP hS dX11_holds_86
                    · have hg := zp hg h77
                      exact B80  _ _ _ (lv_sub hl [] rfl) hP hD hS hg
                · have hg := zp hg h61
                  exact B64  _ _ _ (lv_sub hl [] rfl) hP hD hS hg
            · have hg := zp hg h45
              exact B48  _ _ _ (lv_sub hl [] rfl) hP hD hS hg
      · have hg := zp hg h23
        refine lv_iconst (v := 2) hx hb dX11_holds_26 (by decide) ?_
        refine lv_goto (tgt := 86) hx hb dX11_holds_27 (by decide) ?_
        exact hret 2 hg _ _ _ _ hP hS dX11_holds_86
    · have hg := zp hg h13
      refine lv_iconst (v := 1) hx hb dX11_holds_16 (by decide) ?_
      refine lv_goto (tgt := 86) hx hb dX11_holds_17 (by decide) ?_
      exact hret 1 hg _ _ _ _ hP hS dX11_holds_86
  · have hg := zp hg h3
    refine lv_iconst (v := 0) hx hb dX11_holds_6 (by decide) ?_
    refine lv_goto (tgt := 86) hx hb dX11_holds_7 (by decide) ?_
    exact hret 0 hg _ _ _ _ hP hS dX11_holds_86

/-! SpokenClockModel.does(I)V -/
abbrev ws_X11_does (cI cJ cZ cA : ClassId) (q_M q_M_wait q_M_act : Nat) (u_M_now : Value) (u_M_images : Value) (u_M_kept : Value) (u_M_text : Value) (u_M_size : Value) (u_M_sign : Value) (u_M_manyAbove : Value) (u_M_manyBelow : Value) (u_M_above : Value) (u_M_below : Value) (u_M_refused : Value) (u_M_at : Value) (u_M_begin : Value) (u_M_kind : Value) (u_M_value : Value) (u_M_read : Value) (u_M_held : Value) (u_M_place : Value) (u_M_heap : Value) (u_M_clocks : Value) (u_M_counts : Value) (u_M_talking : Value) (u_M_most : Value) (u_M_hasA : Value) (u_M_hasB : Value) (u_M_talks : Value) (u_M_big : Value) (v_M_acts : Int32) (v_M_waits : Int32) (a_M_wait : Nat → Int32) (a_M_act : Nat → Int32) : va_W := [(q_M, .inr (11, [u_M_now, u_M_images, u_M_kept, u_M_text, u_M_size, u_M_sign, u_M_manyAbove, u_M_manyBelow, u_M_above, u_M_below, u_M_refused, u_M_at, u_M_begin, u_M_kind, u_M_value, u_M_read, .int v_M_acts, .ref q_M_act, .int v_M_waits, .ref q_M_wait, u_M_held, u_M_place, u_M_heap, u_M_clocks, u_M_counts, u_M_talking, u_M_most, u_M_hasA, u_M_hasB, u_M_talks, u_M_big])), (q_M_wait, .inl (cI, 80, .inl a_M_wait)), (q_M_act, .inl (cI, 80, .inl a_M_act))]
abbrev rm_X11_does : Room := { frames := 1, cells := 0, slots := 0, locals := 20 }
def g_X11_does_0b (a_M_wait : Nat → Int32) (x1 : Int32) (k0 : Int32 → Int32 → (Nat → Int32) → Option (Int32 × Int32 × (Nat → Int32))) (v_M_acts : Int32) (v_M_waits : Int32) (a_M_act : Nat → Int32) : Option (Int32 × Int32 × (Nat → Int32)) :=
  if v_M_waits ≤ 0 then (
    some (v_M_acts, v_M_waits, a_M_act)
  ) else (
    if (v_M_waits - 1) < 0 ∨ 80 ≤ (v_M_waits - 1).toNatClampNeg then none else
    (g_X11_holds (a_M_wait ((v_M_waits - 1).toNatClampNeg))).bind fun v2 =>
    if v2 < x1 then (
      some (v_M_acts, v_M_waits, a_M_act)
    ) else (
      if (v_M_waits - 1) < 0 ∨ 80 ≤ (v_M_waits - 1).toNatClampNeg then none else
      if v_M_acts < 0 ∨ 80 ≤ v_M_acts.toNatClampNeg then none else
      k0 (v_M_acts + 1) (v_M_waits - 1) (upd a_M_act (v_M_acts.toNatClampNeg) (-(a_M_wait ((v_M_waits - 1).toNatClampNeg))))
    )
  )
def g_X11_does_0 (a_M_wait : Nat → Int32) (x1 : Int32) : Nat → Int32 → Int32 → (Nat → Int32) → Option (Int32 × Int32 × (Nat → Int32))
  | 0, _, _, _ => none
  | n + 1, v_M_acts, v_M_waits, a_M_act => g_X11_does_0b a_M_wait x1 (g_X11_does_0 a_M_wait x1 n) v_M_acts v_M_waits a_M_act
def g_X11_does (a_M_wait : Nat → Int32) (x1 : Int32) (v_M_acts : Int32) (v_M_waits : Int32) (a_M_act : Nat → Int32) : Option (Int32 × Int32 × (Nat → Int32)) :=
  g_X11_does_0 a_M_wait x1 zF v_M_acts v_M_waits a_M_act
theorem hd_X11_does : yX11_does.cls = RX11 ∧ yX11_does.cls ≠ "java/lang/invoke/MethodHandle" ∧ yX11_does.cls ≠ "java/lang/invoke/VarHandle" ∧ (parseMethodDescriptor yX11_does.desc).map (fun d => d.parameters.length) = some 1 := by decide +kernel
set_option maxHeartbeats 4000000 in
set_option maxRecDepth 100000 in
theorem c_X11_does (l : Launch) (D : va_G) (cI cJ cZ cA : ClassId) (ga : Nat → Nat) (q_M q_M_wait q_M_act : Nat) (u_M_now : Value) (u_M_images : Value) (u_M_kept : Value) (u_M_text : Value) (u_M_size : Value) (u_M_sign : Value) (u_M_manyAbove : Value) (u_M_manyBelow : Value) (u_M_above : Value) (u_M_below : Value) (u_M_refused : Value) (u_M_at : Value) (u_M_begin : Value) (u_M_kind : Value) (u_M_value : Value) (u_M_read : Value) (u_M_held : Value) (u_M_place : Value) (u_M_heap : Value) (u_M_clocks : Value) (u_M_counts : Value) (u_M_talking : Value) (u_M_most : Value) (u_M_hasA : Value) (u_M_hasB : Value) (u_M_talks : Value) (u_M_big : Value) (v_M_acts : Int32) (v_M_waits : Int32) (a_M_wait : Nat → Int32) (a_M_act : Nat → Int32) (x1 : Int32) (o : Int32 × Int32 × (Nat → Int32)) (hg : g_X11_does a_M_wait x1 v_M_acts v_M_waits a_M_act = some o) : zM l yX11_does (Cond.code yX11_does cX11_does 2 none :: wsL_law) rm_X11_does D (zTy cI cJ cZ cA) ga [.ref q_M, .int x1] (ws_X11_does cI cJ cZ cA q_M q_M_wait q_M_act u_M_now u_M_images u_M_kept u_M_text u_M_size u_M_sign u_M_manyAbove u_M_manyBelow u_M_above u_M_below u_M_refused u_M_at u_M_begin u_M_kind u_M_value u_M_read u_M_held u_M_place u_M_heap u_M_clocks u_M_counts u_M_talking u_M_most u_M_hasA u_M_hasB u_M_talks u_M_big v_M_acts v_M_waits a_M_wait a_M_act) (ws_X11_does cI cJ cZ cA q_M q_M_wait q_M_act u_M_now u_M_images u_M_kept u_M_text u_M_size u_M_sign u_M_manyAbove u_M_manyBelow u_M_above u_M_below u_M_refused u_M_at u_M_begin u_M_kind u_M_value u_M_read u_M_held u_M_place u_M_heap u_M_clocks u_M_counts u_M_talking u_M_most u_M_hasA u_M_hasB u_M_talks u_M_big o.1 o.2.1 a_M_wait o.2.2) none := by
  refine zenterV (own := RX11) (by decide) rfl rfl (Nat.le_of_ble_eq_true rfl) ?_
  intro p e s m args below meth c A ls Q S hA hK hG hl hP hD hS hret0
  have hx := S.1
  have hb := S.2.1
  have ht : ∀ w, w ∈ wsL_law → w.before args s = true := fun w h => S.2.2.2.2 w (List.mem_cons_of_mem _ h)
  have hret : ∀ (v_M_acts : Int32) (v_M_waits : Int32) (a_M_act : Nat → Int32), (some (v_M_acts, v_M_waits, a_M_act) : Option (Int32 × Int32 × (Nat → Int32))) = some o → ∀ (H : Heap) (locs : List Loc) (pc : Nat) (ls : Array Slot), va_P D vwCl (ws_X11_does cI cJ cZ cA q_M q_M_wait q_M_act u_M_now u_M_images u_M_kept u_M_text u_M_size u_M_sign u_M_manyAbove u_M_manyBelow u_M_above u_M_below u_M_refused u_M_at u_M_begin u_M_kind u_M_value u_M_read u_M_held u_M_place u_M_heap u_M_clocks u_M_counts u_M_talking u_M_most u_M_hasA u_M_hasB u_M_talks u_M_big v_M_acts v_M_waits a_M_wait a_M_act) H → va_S A s.heap H locs → decode cX11_does pc = .ok (.return_, 1) → W p l e rm_X11_does s m args below meth c H locs 0 0 Q (F0 m pc ls []) := by
    intro v_M_acts v_M_waits a_M_act he; cases he; exact hret0
  have hl : lv_has ls 2 [(0, .ref q_M), (1, .int x1)] := hl
  have B0 : ∀  (n : Nat) (v_M_acts : Int32) (v_M_waits : Int32) (a_M_act : Nat → Int32) (H : Heap) (locs : List Loc) (ls : Array Slot) (hl : lv_has ls 2 [(0, .ref q_M), (1, .int x1)]) (hP : va_P D vwCl (ws_X11_does cI cJ cZ cA q_M q_M_wait q_M_act u_M_now u_M_images u_M_kept u_M_text u_M_size u_M_sign u_M_manyAbove u_M_manyBelow u_M_above u_M_below u_M_refused u_M_at u_M_begin u_M_kind u_M_value u_M_read u_M_held u_M_place u_M_heap u_M_clocks u_M_counts u_M_talking u_M_most u_M_hasA u_M_hasB u_M_talks u_M_big v_M_acts v_M_waits a_M_wait a_M_act) H) (hD : va_D A (ws_X11_does cI cJ cZ cA q_M q_M_wait q_M_act u_M_now u_M_images u_M_kept u_M_text u_M_size u_M_sign u_M_manyAbove u_M_manyBelow u_M_above u_M_below u_M_refused u_M_at u_M_begin u_M_kind u_M_value u_M_read u_M_held u_M_place u_M_heap u_M_clocks u_M_counts u_M_talking u_M_most u_M_hasA u_M_hasB u_M_talks u_M_big v_M_acts v_M_waits a_M_wait a_M_act)) (hS : va_S A s.heap H locs), g_X11_does_0 a_M_wait x1 n v_M_acts v_M_waits a_M_act = some o → W p l e rm_X11_does s m args below meth c H locs 0 0 Q (F0 m 0 ls []) := by
    intro  n
    induction n with
    | zero => intro v_M_acts v_M_waits a_M_act H locs ls hl hP hD hS hg; exact nomatch (show (none : Option (Int32 × Int32 × (Nat → Int32))) = some o from hg)
    | succ n ih =>
      intro v_M_acts v_M_waits a_M_act H locs ls hl hP hD hS hg
      have hg : g_X11_does_0b a_M_wait x1 (g_X11_does_0 a_M_wait x1 n) v_M_acts v_M_waits a_M_act = some o := hg
      refine lv_aload_n hx hb dX11_does_0 rfl (lv_at hl 0 rfl) ?_
      refine zget (C := RX11) (T := TX11) (N := 31) S hK hP 0 rfl rfl 18 (Nat.le_of_ble_eq_true rfl) zf_11 zw_596 rfl dX11_does_1 ?_
      refine lv_if_le (tgt := 67) hx hb dX11_does_4 (by decide) (fun h4 => ?_) (fun h4 => ?_)
      · have hg := zp hg h4
        exact hret v_M_acts v_M_waits a_M_act hg _ _ _ _ hP hS dX11_does_67
      · have hg := zn hg h4
        refine lv_aload_n hx hb dX11_does_7 rfl (lv_at hl 0 rfl) ?_
        refine zget (C := RX11) (T := TX11) (N := 31) S hK hP 0 rfl rfl 19 (Nat.le_of_ble_eq_true rfl) zf_11 zw_159 rfl dX11_does_8 ?_
        refine lv_aload_n hx hb dX11_does_11 rfl (lv_at hl 0 rfl) ?_
        refine zget (C := RX11) (T := TX11) (N := 31) S hK hP 0 rfl rfl 18 (Nat.le_of_ble_eq_true rfl) zf_11 zw_596 rfl dX11_does_12 ?_
        refine lv_iconst (v := 1) hx hb dX11_does_15 (by decide) ?_
        refine lv_isub hx hb dX11_does_16 ?_
        obtain ⟨h1, hg⟩ := zck hg
        refine ziald hx hb hK hP 1 0 rfl rfl (j := ((v_M_waits - 1).toNatClampNeg)) h1 rfl dX11_does_17 ?_
        obtain ⟨v2, hc3, hg⟩ := zbd hg
        refine zcallS (rest := []) S (c_X11_holds l D cI cJ cZ cA ga (a_M_wait ((v_M_waits - 1).toNatClampNeg)) v2 hc3) (zgS zw_613 zw_614 zw_5 zw_615) rfl hd_X11_holds ⟨rfl, rfl⟩ ⟨Nat.le_of_ble_eq_true rfl, Nat.le_of_ble_eq_true rfl⟩ rfl hl.1 rfl (Nat.le_of_ble_eq_true rfl) dX11_does_18 hP hD hS hA hK hG (isC := []) rfl (by decide +kernel) rfl ⟨Nat.zero_le _, Nat.zero_le _⟩ (pl := [none, none, none]) (nw := 3) rfl (by decide +kernel) (w2 := (ws_X11_does cI cJ cZ cA q_M q_M_wait q_M_act u_M_now u_M_images u_M_kept u_M_text u_M_size u_M_sign u_M_manyAbove u_M_manyBelow u_M_above u_M_below u_M_refused u_M_at u_M_begin u_M_kind u_M_value u_M_read u_M_held u_M_place u_M_heap u_M_clocks u_M_counts u_M_talking u_M_most u_M_hasA u_M_hasB u_M_talks u_M_big v_M_acts v_M_waits a_M_wait a_M_act)) rfl (st1 := [.int v2]) rfl (fun H locs hP hD hS => ?_)
        refine lv_iload_n hx hb dX11_does_21 rfl (lv_at hl 1 rfl) ?_
        refine lv_icmp_lt (tgt := 67) hx hb dX11_does_22 (by decide) (fun h22 => ?_) (fun h22 => ?_)
        · have hg := zp hg h22
          exact hret v_M_acts v_M_waits a_M_act hg _ _ _ _ hP hS dX11_does_67
        · have hg := zn hg h22
          refine lv_aload_n hx hb dX11_does_25 rfl (lv_at hl 0 rfl) ?_
          refine lv_dup hx hb dX11_does_26 rfl ?_
          refine zget (C := RX11) (T := TX11) (N := 31) S hK hP 0 rfl rfl 18 (Nat.le_of_ble_eq_true rfl) zf_11 zw_596 rfl dX11_does_27 ?_
          refine lv_iconst (v := 1) hx hb dX11_does_30 (by decide) ?_
          refine lv_isub hx hb dX11_does_31 ?_
          refine zputf (C := RX11) (T := TX11) (N := 31) (ty := .int) S hK hP hD hS 0 rfl rfl 18 (Nat.le_of_ble_eq_true rfl) zf_11 tyX11 tyX11_ok nmX11 zw_596 rfl (by decide +kernel) rfl rfl (Nat.le_of_ble_eq_true rfl) dX11_does_32 (w2 := (ws_X11_does cI cJ cZ cA q_M q_M_wait q_M_act u_M_now u_M_images u_M_kept u_M_text u_M_size u_M_sign u_M_manyAbove u_M_manyBelow u_M_above u_M_below u_M_refused u_M_at u_M_begin u_M_kind u_M_value u_M_read u_M_held u_M_place u_M_heap u_M_clocks u_M_counts u_M_talking u_M_most u_M_hasA u_M_hasB u_M_talks u_M_big v_M_acts (v_M_waits - 1) a_M_wait a_M_act)) rfl (fun H locs hP hD hS => ?_)
          refine lv_aload_n hx hb dX11_does_35 rfl (lv_at hl 0 rfl) ?_
          refine zget (C := RX11) (T := TX11) (N := 31) S hK hP 0 rfl rfl 17 (Nat.le_of_ble_eq_true rfl) zf_11 zw_158 rfl dX11_does_36 ?_
          refine lv_aload_n hx hb dX11_does_39 rfl (lv_at hl 0 rfl) ?_
          refine zget (C := RX11) (T := TX11) (N := 31) S hK hP 0 rfl rfl 16 (Nat.le_of_ble_eq_true rfl) zf_11 zw_595 rfl dX11_does_40 ?_
          refine lv_aload_n hx hb dX11_does_43 rfl (lv_at hl 0 rfl) ?_
          refine zget (C := RX11) (T := TX11) (N := 31) S hK hP 0 rfl rfl 19 (Nat.le_of_ble_eq_true rfl) zf_11 zw_159 rfl dX11_does_44 ?_
          refine lv_aload_n hx hb dX11_does_47 rfl (lv_at hl 0 rfl) ?_
          refine zget (C := RX11) (T := TX11) (N := 31) S hK hP 0 rfl rfl 18 (Nat.le_of_ble_eq_true rfl) zf_11 zw_596 rfl dX11_does_48 ?_
          obtain ⟨h4, hg⟩ := zck hg
          refine ziald hx hb hK hP 1 0 rfl rfl (j := ((v_M_waits - 1).toNatClampNeg)) h4 rfl dX11_does_51 ?_
          refine lv_ineg hx hb dX11_does_52 ?_
          obtain ⟨h5, hg⟩ := zck hg
          refine ziast hx hb hK hP hD hS 2 0 rfl rfl (j := (v_M_acts.toNatClampNeg)) h5 rfl dX11_does_53 (w2 := (ws_X11_does cI cJ cZ cA q_M q_M_wait q_M_act u_M_now u_M_images u_M_kept u_M_text u_M_size u_M_sign u_M_manyAbove u_M_manyBelow u_M_above u_M_below u_M_refused u_M_at u_M_begin u_M_kind u_M_value u_M_read u_M_held u_M_place u_M_heap u_M_clocks u_M_counts u_M_talking u_M_most u_M_hasA u_M_hasB u_M_talks u_M_big v_M_acts (v_M_waits - 1) a_M_wait (upd a_M_act (v_M_acts.toNatClampNeg) (-(a_M_wait ((v_M_waits - 1).toNatClampNeg)))))) rfl (fun H locs hP hD hS => ?_)
          refine lv_aload_n hx hb dX11_does_54 rfl (lv_at hl 0 rfl) ?_
          refine lv_dup hx hb dX11_does_55 rfl ?_
          refine zget (C := RX11) (T := TX11) (N := 31) S hK hP 0 rfl rfl 16 (Nat.le_of_ble_eq_true rfl) zf_11 zw_595 rfl dX11_does_56 ?_
          refine lv_iconst (v := 1) hx hb dX11_does_59 (by decide) ?_
          refine lv_iadd hx hb dX11_does_60 ?_
          refine zputf (C := RX11) (T := TX11) (N := 31) (ty := .int) S hK hP hD hS 0 rfl rfl 16 (Nat.le_of_ble_eq_true rfl) zf_11 tyX11 tyX11_ok nmX11 zw_595 rfl (by decide +kernel) rfl rfl (Nat.le_of_ble_eq_true rfl) dX11_does_61 (w2 := (ws_X11_does cI cJ cZ cA q_M q_M_wait q_M_act u_M_now u_M_images u_M_kept u_M_text u_M_size u_M_sign u_M_manyAbove u_M_manyBelow u_M_above u_M_below u_M_refused u_M_at u_M_begin u_M_kind u_M_value u_M_read u_M_held u_M_place u_M_heap u_M_clocks u_M_counts u_M_talking u_M_most u_M_hasA u_M_hasB u_M_talks u_M_big (v_M_acts + 1) (v_M_waits - 1) a_M_wait (upd a_M_act (v_M_acts.toNatClampNeg) (-(a_M_wait ((v_M_waits - 1).toNatClampNeg)))))) rfl (fun H locs hP hD hS => ?_)
          refine lv_goto (tgt := 0) hx hb dX11_does_64 (by decide) ?_
          exact ih (v_M_acts + 1) (v_M_waits - 1) (upd a_M_act (v_M_acts.toNatClampNeg) (-(a_M_wait ((v_M_waits - 1).toNatClampNeg)))) _ _ _ hl hP hD hS hg
  exact B0 zF v_M_acts v_M_waits a_M_act _ _ _ hl hP hD hS hg

/-! SpokenClockModel.isName(I)Z -/
abbrev ws_X11_isName (cI cJ cZ cA : ClassId) : va_W := []
abbrev rm_X11_isName : Room := { frames := 0, cells := 0, slots := 0, locals := 0 }
def g_X11_isName_36 (x0 : Int32) : Option (Int32) :=
  some (1)
def g_X11_isName (x0 : Int32) : Option (Int32) :=
  if x0 = 99 then (
    g_X11_isName_36 x0
  ) else (
    if x0 = 115 then (
      g_X11_isName_36 x0
    ) else (
      if x0 = 111 then (
        g_X11_isName_36 x0
      ) else (
        if x0 = 112 then (
          g_X11_isName_36 x0
        ) else (
          if x0 = 98 then (
            g_X11_isName_36 x0
          ) else (
            if x0 = 102 then (
              g_X11_isName_36 x0
            ) else (
              some (0)
            )
          )
        )
      )
    )
  )
theorem hd_X11_isName : yX11_isName.cls ≠ "java/lang/invoke/MethodHandle" ∧ yX11_isName.cls ≠ "java/lang/invoke/VarHandle" ∧ (parseMethodDescriptor yX11_isName.desc).map (fun d => d.parameters.length) = some 1 := by decide +kernel
set_option maxHeartbeats 4000000 in
set_option maxRecDepth 100000 in
theorem c_X11_isName (l : Launch) (D : va_G) (cI cJ cZ cA : ClassId) (ga : Nat → Nat) (x0 : Int32) (o : Int32) (hg : g_X11_isName x0 = some o) : zM l yX11_isName (Cond.code yX11_isName cX11_isName 1 (some .boolean) :: wsL_law) rm_X11_isName D (zTy cI cJ cZ cA) ga [.int x0] (ws_X11_isName cI cJ cZ cA) (ws_X11_isName cI cJ cZ cA) (some (.int o)) := by
  refine zenterN (own := RX11) (by decide) rfl rfl (Nat.le_of_ble_eq_true rfl) ?_
  intro p e s m args below meth c A ls Q S hA hK hG hl hP hD hS hret0
  have hx := S.1
  have hb := S.2.1
  have ht : ∀ w, w ∈ wsL_law → w.before args s = true := fun w h => S.2.2.2.2 w (List.mem_cons_of_mem _ h)
  have hret : ∀ (r9 : Int32), (some (r9) : Option (Int32)) = some o → narrow .boolean (.int r9) = .int r9 → ∀ (H : Heap) (locs : List Loc) (pc : Nat) (ls : Array Slot), va_P D vwCl (ws_X11_isName cI cJ cZ cA) H → va_S A s.heap H locs → decode cX11_isName pc = .ok (.ireturn, 1) → W p l e rm_X11_isName s m args below meth c H locs 0 0 Q (F0 m pc ls [.int r9]) := by
    intro r9 he; cases he; exact hret0
  have hl : lv_has ls 1 [(0, .int x0)] := hl
  have B36 : ∀  (H : Heap) (locs : List Loc) (ls : Array Slot) (hl : lv_has ls 1 []) (hP : va_P D vwCl (ws_X11_isName cI cJ cZ cA) H) (hD : va_D A (ws_X11_isName cI cJ cZ cA)) (hS : va_S A s.heap H locs), g_X11_isName_36 x0 = some o → W p l e rm_X11_isName s m args below meth c H locs 0 0 Q (F0 m 36 ls []) := by
    intro   H locs ls hl hP hD hS hg
    refine lv_iconst (v := 1) hx hb dX11_isName_36 (by decide) ?_
    refine lv_goto (tgt := 41) hx hb dX11_isName_37 (by decide) ?_
    exact hret 1 hg (zb01 (Or.inr rfl)) _ _ _ _ hP hS dX11_isName_41
  refine lv_iload_n hx hb dX11_isName_0 rfl (lv_at hl 0 rfl) ?_
  refine lv_bipush (v := 99) hx hb dX11_isName_1 (by decide) ?_
  refine lv_icmp_eq (tgt := 36) hx hb dX11_isName_3 (by decide) (fun h3 => ?_) (fun h3 => ?_)
  · have hg := zp hg h3
    exact B36  _ _ _ (lv_sub hl [] rfl) hP hD hS hg
  · have hg := zn hg h3
    refine lv_iload_n hx hb dX11_isName_6 rfl (lv_at hl 0 rfl) ?_
    refine lv_bipush (v := 115) hx hb dX11_isName_7 (by decide) ?_
    refine lv_icmp_eq (tgt := 36) hx hb dX11_isName_9 (by decide) (fun h9 => ?_) (fun h9 => ?_)
    · have hg := zp hg h9
      exact B36  _ _ _ (lv_sub hl [] rfl) hP hD hS hg
    · have hg := zn hg h9
      refine lv_iload_n hx hb dX11_isName_12 rfl (lv_at hl 0 rfl) ?_
      refine lv_bipush (v := 111) hx hb dX11_isName_13 (by decide) ?_
      refine lv_icmp_eq (tgt := 36) hx hb dX11_isName_15 (by decide) (fun h15 => ?_) (fun h15 => ?_)
      · have hg := zp hg h15
        exact B36  _ _ _ (lv_sub hl [] rfl) hP hD hS hg
      · have hg := zn hg h15
        refine lv_iload_n hx hb dX11_isName_18 rfl (lv_at hl 0 rfl) ?_
        refine lv_bipush (v := 112) hx hb dX11_isName_19 (by decide) ?_
        refine lv_icmp_eq (tgt := 36) hx hb dX11_isName_21 (by decide) (fun h21 => ?_) (fun h21 => ?_)
        · have hg := zp hg h21
          exact B36  _ _ _ (lv_sub hl [] rfl) hP hD hS hg
        · have hg := zn hg h21
          refine lv_iload_n hx hb dX11_isName_24 rfl (lv_at hl 0 rfl) ?_
          refine lv_bipush (v := 98) hx hb dX11_isName_25 (by decide) ?_
          refine lv_icmp_eq (tgt := 36) hx hb dX11_isName_27 (by decide) (fun h27 => ?_) (fun h27 => ?_)
          · have hg := zp hg h27
            exact B36  _ _ _ (lv_sub hl [] rfl) hP hD hS hg
          · have hg := zn hg h27
            refine lv_iload_n hx hb dX11_isName_30 rfl (lv_at hl 0 rfl) ?_
            refine lv_bipush (v := 102) hx hb dX11_isName_31 (by decide) ?_
            refine lv_icmp_ne (tgt := 40) hx hb dX11_isName_33 (by decide) (fun h33 => ?_) (fun h33 => ?_)
            · have hg := zn hg h33
              refine lv_iconst (v := 0) hx hb dX11_isName_40 (by decide) ?_
              exact hret 0 hg (zb01 (Or.inl rfl)) _ _ _ _ hP hS dX11_isName_41
            · have hg := zp hg h33
              exact B36  _ _ _ (lv_sub hl [] rfl) hP hD hS hg

/-! SpokenClockModel.here()I -/
abbrev ws_X11_here (cI cJ cZ cA : ClassId) (q_M q_M_now : Nat) (u_M_images : Value) (u_M_kept : Value) (u_M_text : Value) (u_M_size : Value) (u_M_sign : Value) (u_M_manyAbove : Value) (u_M_manyBelow : Value) (u_M_above : Value) (u_M_below : Value) (u_M_refused : Value) (u_M_at : Value) (u_M_begin : Value) (u_M_kind : Value) (u_M_value : Value) (u_M_read : Value) (u_M_acts : Value) (u_M_act : Value) (u_M_waits : Value) (u_M_wait : Value) (u_M_held : Value) (u_M_heap : Value) (u_M_clocks : Value) (u_M_counts : Value) (u_M_talking : Value) (u_M_most : Value) (u_M_hasA : Value) (u_M_hasB : Value) (u_M_talks : Value) (u_M_big : Value) (v_M_place : Int32) (a_M_now : Nat → Int32) : va_W := [(q_M, .inr (11, [.ref q_M_now, u_M_images, u_M_kept, u_M_text, u_M_size, u_M_sign, u_M_manyAbove, u_M_manyBelow, u_M_above, u_M_below, u_M_refused, u_M_at, u_M_begin, u_M_kind, u_M_value, u_M_read, u_M_acts, u_M_act, u_M_waits, u_M_wait, u_M_held, .int v_M_place, u_M_heap, u_M_clocks, u_M_counts, u_M_talking, u_M_most, u_M_hasA, u_M_hasB, u_M_talks, u_M_big])), (q_M_now, .inl (cI, 155, .inl a_M_now))]
abbrev rm_X11_here : Room := { frames := 0, cells := 0, slots := 0, locals := 0 }
def g_X11_here_44 (a_M_now : Nat → Int32) (v_M_place : Int32) : Option (Int32 × Int32) :=
  if (a_M_now 7) ≤ v_M_place then (
    some ((-1), v_M_place)
  ) else (
    if (115 + v_M_place) < 0 ∨ 155 ≤ (115 + v_M_place).toNatClampNeg then none else
    some (a_M_now ((115 + v_M_place).toNatClampNeg), v_M_place)
  )
def g_X11_here_0b (a_M_now : Nat → Int32) (k0 : Int32 → Option (Int32 × Int32)) (v_M_place : Int32) : Option (Int32 × Int32) :=
  if (a_M_now 7) ≤ v_M_place then (
    g_X11_here_44 a_M_now v_M_place
  ) else (
    if (115 + v_M_place) < 0 ∨ 155 ≤ (115 + v_M_place).toNatClampNeg then none else
    if (a_M_now ((115 + v_M_place).toNatClampNeg)) = 32 then (
      k0 (v_M_place + 1)
    ) else (
      g_X11_here_44 a_M_now v_M_place
    )
  )
def g_X11_here_0 (a_M_now : Nat → Int32) : Nat → Int32 → Option (Int32 × Int32)
  | 0, _ => none
  | n + 1, v_M_place => g_X11_here_0b a_M_now (g_X11_here_0 a_M_now n) v_M_place
def g_X11_here (a_M_now : Nat → Int32) (v_M_place : Int32) : Option (Int32 × Int32) :=
  g_X11_here_0 a_M_now zF v_M_place
theorem hd_X11_here : yX11_here.cls = RX11 ∧ yX11_here.cls ≠ "java/lang/invoke/MethodHandle" ∧ yX11_here.cls ≠ "java/lang/invoke/VarHandle" ∧ (parseMethodDescriptor yX11_here.desc).map (fun d => d.parameters.length) = some 0 := by decide +kernel
set_option maxHeartbeats 4000000 in
set_option maxRecDepth 100000 in
theorem c_X11_here (l : Launch) (D : va_G) (cI cJ cZ cA : ClassId) (ga : Nat → Nat) (q_M q_M_now : Nat) (u_M_images : Value) (u_M_kept : Value) (u_M_text : Value) (u_M_size : Value) (u_M_sign : Value) (u_M_manyAbove : Value) (u_M_manyBelow : Value) (u_M_above : Value) (u_M_below : Value) (u_M_refused : Value) (u_M_at : Value) (u_M_begin : Value) (u_M_kind : Value) (u_M_value : Value) (u_M_read : Value) (u_M_acts : Value) (u_M_act : Value) (u_M_waits : Value) (u_M_wait : Value) (u_M_held : Value) (u_M_heap : Value) (u_M_clocks : Value) (u_M_counts : Value) (u_M_talking : Value) (u_M_most : Value) (u_M_hasA : Value) (u_M_hasB : Value) (u_M_talks : Value) (u_M_big : Value) (v_M_place : Int32) (a_M_now : Nat → Int32) (o : Int32 × Int32) (hg : g_X11_here a_M_now v_M_place = some o) : zM l yX11_here (Cond.code yX11_here cX11_here 1 (some .int) :: wsL_law) rm_X11_here D (zTy cI cJ cZ cA) ga [.ref q_M] (ws_X11_here cI cJ cZ cA q_M q_M_now u_M_images u_M_kept u_M_text u_M_size u_M_sign u_M_manyAbove u_M_manyBelow u_M_above u_M_below u_M_refused u_M_at u_M_begin u_M_kind u_M_value u_M_read u_M_acts u_M_act u_M_waits u_M_wait u_M_held u_M_heap u_M_clocks u_M_counts u_M_talking u_M_most u_M_hasA u_M_hasB u_M_talks u_M_big v_M_place a_M_now) (ws_X11_here cI cJ cZ cA q_M q_M_now u_M_images u_M_kept u_M_text u_M_size u_M_sign u_M_manyAbove u_M_manyBelow u_M_above u_M_below u_M_refused u_M_at u_M_begin u_M_kind u_M_value u_M_read u_M_acts u_M_act u_M_waits u_M_wait u_M_held u_M_heap u_M_clocks u_M_counts u_M_talking u_M_most u_M_hasA u_M_hasB u_M_talks u_M_big o.2 a_M_now) (some (.int o.1)) := by
  refine zenterI (own := RX11) (by decide) rfl rfl (Nat.le_of_ble_eq_true rfl) ?_
  intro p e s m args below meth c A ls Q S hA hK hG hl hP hD hS hret0
  have hx := S.1
  have hb := S.2.1
  have ht : ∀ w, w ∈ wsL_law → w.before args s = true := fun w h => S.2.2.2.2 w (List.mem_cons_of_mem _ h)
  have hret : ∀ (r9 : Int32) (v_M_place : Int32), (some (r9, v_M_place) : Option (Int32 × Int32)) = some o → ∀ (H : Heap) (locs : List Loc) (pc : Nat) (ls : Array Slot), va_P D vwCl (ws_X11_here cI cJ cZ cA q_M q_M_now u_M_images u_M_kept u_M_text u_M_size u_M_sign u_M_manyAbove u_M_manyBelow u_M_above u_M_below u_M_refused u_M_at u_M_begin u_M_kind u_M_value u_M_read u_M_acts u_M_act u_M_waits u_M_wait u_M_held u_M_heap u_M_clocks u_M_counts u_M_talking u_M_most u_M_hasA u_M_hasB u_M_talks u_M_big v_M_place a_M_now) H → va_S A s.heap H locs → decode cX11_here pc = .ok (.ireturn, 1) → W p l e rm_X11_here s m args below meth c H locs 0 0 Q (F0 m pc ls [.int r9]) := by
    intro r9 v_M_place he; cases he; exact hret0
  have hl : lv_has ls 1 [(0, .ref q_M)] := hl
  have B44 : ∀ (v_M_place : Int32) (H : Heap) (locs : List Loc) (ls : Array Slot) (hl : lv_has ls 1 [(0, .ref q_M)]) (hP : va_P D vwCl (ws_X11_here cI cJ cZ cA q_M q_M_now u_M_images u_M_kept u_M_text u_M_size u_M_sign u_M_manyAbove u_M_manyBelow u_M_above u_M_below u_M_refused u_M_at u_M_begin u_M_kind u_M_value u_M_read u_M_acts u_M_act u_M_waits u_M_wait u_M_held u_M_heap u_M_clocks u_M_counts u_M_talking u_M_most u_M_hasA u_M_hasB u_M_talks u_M_big v_M_place a_M_now) H) (hD : va_D A (ws_X11_here cI cJ cZ cA q_M q_M_now u_M_images u_M_kept u_M_text u_M_size u_M_sign u_M_manyAbove u_M_manyBelow u_M_above u_M_below u_M_refused u_M_at u_M_begin u_M_kind u_M_value u_M_read u_M_acts u_M_act u_M_waits u_M_wait u_M_held u_M_heap u_M_clocks u_M_counts u_M_talking u_M_most u_M_hasA u_M_hasB u_M_talks u_M_big v_M_place a_M_now)) (hS : va_S A s.heap H locs), g_X11_here_44 a_M_now v_M_place = some o → W p l e rm_X11_here s m args below meth c H locs 0 0 Q (F0 m 44 ls []) := by
    intro  v_M_place H locs ls hl hP hD hS hg
    refine lv_aload_n hx hb dX11_here_44 rfl (lv_at hl 0 rfl) ?_
    refine zget (C := RX11) (T := TX11) (N := 31) S hK hP 0 rfl rfl 21 (Nat.le_of_ble_eq_true rfl) zf_11 zw_597 rfl dX11_here_45 ?_
    refine lv_aload_n hx hb dX11_here_48 rfl (lv_at hl 0 rfl) ?_
    refine zget (C := RX11) (T := TX11) (N := 31) S hK hP 0 rfl rfl 0 (Nat.le_of_ble_eq_true rfl) zf_11 zw_149 rfl dX11_here_49 ?_
    refine lv_bipush (v := 7) hx hb dX11_here_52 (by decide) ?_
    refine ziald hx hb hK hP 1 0 rfl rfl (j := 7) (zin (by decide)) (by decide) dX11_here_54 ?_
    refine lv_icmp_ge (tgt := 73) hx hb dX11_here_55 (by decide) (fun h55 => ?_) (fun h55 => ?_)
    · have hg := zp hg h55
      refine lv_iconst (v := (-1)) hx hb dX11_here_73 (by decide) ?_
      exact hret (-1) v_M_place hg _ _ _ _ hP hS dX11_here_74
    · have hg := zn hg h55
      refine lv_aload_n hx hb dX11_here_58 rfl (lv_at hl 0 rfl) ?_
      refine zget (C := RX11) (T := TX11) (N := 31) S hK hP 0 rfl rfl 0 (Nat.le_of_ble_eq_true rfl) zf_11 zw_149 rfl dX11_here_59 ?_
      refine lv_bipush (v := 115) hx hb dX11_here_62 (by decide) ?_
      refine lv_aload_n hx hb dX11_here_64 rfl (lv_at hl 0 rfl) ?_
      refine zget (C := RX11) (T := TX11) (N := 31) S hK hP 0 rfl rfl 21 (Nat.le_of_ble_eq_true rfl) zf_11 zw_597 rfl dX11_here_65 ?_
      refine lv_iadd hx hb dX11_here_68 ?_
      obtain ⟨h1, hg⟩ := zck hg
      refine ziald hx hb hK hP 1 0 rfl rfl (j := ((115 + v_M_place).toNatClampNeg)) h1 rfl dX11_here_69 ?_
      refine lv_goto (tgt := 74) hx hb dX11_here_70 (by decide) ?_
      exact hret (a_M_now ((115 + v_M_place).toNatClampNeg)) v_M_place hg _ _ _ _ hP hS dX11_here_74
  have B0 : ∀  (n : Nat) (v_M_place : Int32) (H : Heap) (locs : List Loc) (ls : Array Slot) (hl : lv_has ls 1 [(0, .ref q_M)]) (hP : va_P D vwCl (ws_X11_here cI cJ cZ cA q_M q_M_now u_M_images u_M_kept u_M_text u_M_size u_M_sign u_M_manyAbove u_M_manyBelow u_M_above u_M_below u_M_refused u_M_at u_M_begin u_M_kind u_M_value u_M_read u_M_acts u_M_act u_M_waits u_M_wait u_M_held u_M_heap u_M_clocks u_M_counts u_M_talking u_M_most u_M_hasA u_M_hasB u_M_talks u_M_big v_M_place a_M_now) H) (hD : va_D A (ws_X11_here cI cJ cZ cA q_M q_M_now u_M_images u_M_kept u_M_text u_M_size u_M_sign u_M_manyAbove u_M_manyBelow u_M_above u_M_below u_M_refused u_M_at u_M_begin u_M_kind u_M_value u_M_read u_M_acts u_M_act u_M_waits u_M_wait u_M_held u_M_heap u_M_clocks u_M_counts u_M_talking u_M_most u_M_hasA u_M_hasB u_M_talks u_M_big v_M_place a_M_now)) (hS : va_S A s.heap H locs), g_X11_here_0 a_M_now n v_M_place = some o → W p l e rm_X11_here s m args below meth c H locs 0 0 Q (F0 m 0 ls []) := by
    intro  n
    induction n with
    | zero => intro v_M_place H locs ls hl hP hD hS hg; exact nomatch (show (none : Option (Int32 × Int32)) = some o from hg)
    | succ n ih =>
      intro v_M_place H locs ls hl hP hD hS hg
      have hg : g_X11_here_0b a_M_now (g_X11_here_0 a_M_now n) v_M_place = some o := hg
      refine lv_aload_n hx hb dX11_here_0 rfl (lv_at hl 0 rfl) ?_
      refine zget (C := RX11) (T := TX11) (N := 31) S hK hP 0 rfl rfl 21 (Nat.le_of_ble_eq_true rfl) zf_11 zw_597 rfl dX11_here_1 ?_
      refine lv_aload_n hx hb dX11_here_4 rfl (lv_at hl 0 rfl) ?_
      refine zget (C := RX11) (T := TX11) (N := 31) S hK hP 0 rfl rfl 0 (Nat.le_of_ble_eq_true rfl) zf_11 zw_149 rfl dX11_here_5 ?_
      refine lv_bipush (v := 7) hx hb dX11_here_8 (by decide) ?_
      refine ziald hx hb hK hP 1 0 rfl rfl (j := 7) (zin (by decide)) (by decide) dX11_here_10 ?_
      refine lv_icmp_ge (tgt := 44) hx hb dX11_here_11 (by decide) (fun h11 => ?_) (fun h11 => ?_)
      · have hg := zp hg h11
        exact B44 v_M_place _ _ _ hl hP hD hS hg
      · have hg := zn hg h11
        refine lv_aload_n hx hb dX11_here_14 rfl (lv_at hl 0 rfl) ?_
        refine zget (C := RX11) (T := TX11) (N := 31) S hK hP 0 rfl rfl 0 (Nat.le_of_ble_eq_true rfl) zf_11 zw_149 rfl dX11_here_15 ?_
        refine lv_bipush (v := 115) hx hb dX11_here_18 (by decide) ?_
        refine lv_aload_n hx hb dX11_here_20 rfl (lv_at hl 0 rfl) ?_
        refine zget (C := RX11) (T := TX11) (N := 31) S hK hP 0 rfl rfl 21 (Nat.le_of_ble_eq_true rfl) zf_11 zw_597 rfl dX11_here_21 ?_
        refine lv_iadd hx hb dX11_here_24 ?_
        obtain ⟨h2, hg⟩ := zck hg
        refine ziald hx hb hK hP 1 0 rfl rfl (j := ((115 + v_M_place).toNatClampNeg)) h2 rfl dX11_here_25 ?_
        refine lv_bipush (v := 32) hx hb dX11_here_26 (by decide) ?_
        refine lv_icmp_ne (tgt := 44) hx hb dX11_here_28 (by decide) (fun h28 => ?_) (fun h28 => ?_)
        · have hg := zn hg h28
          exact B44 v_M_place _ _ _ hl hP hD hS hg
        · have hg := zp hg h28
          refine lv_aload_n hx hb dX11_here_31 rfl (lv_at hl 0 rfl) ?_
          refine lv_dup hx hb dX11_here_32 rfl ?_
          refine zget (C := RX11) (T := TX11) (N := 31) S hK hP 0 rfl rfl 21 (Nat.le_of_ble_eq_true rfl) zf_11 zw_597 rfl dX11_here_33 ?_
          refine lv_iconst (v := 1) hx hb dX11_here_36 (by decide) ?_
          refine lv_iadd hx hb dX11_here_37 ?_
          refine zputf (C := RX11) (T := TX11) (N := 31) (ty := .int) S hK hP hD hS 0 rfl rfl 21 (Nat.le_of_ble_eq_true rfl) zf_11 tyX11 tyX11_ok nmX11 zw_597 rfl (by decide +kernel) rfl rfl (Nat.le_of_ble_eq_true rfl) dX11_here_38 (w2 := (ws_X11_here cI cJ cZ cA q_M q_M_now u_M_images u_M_kept u_M_text u_M_size u_M_sign u_M_manyAbove u_M_manyBelow u_M_above u_M_below u_M_refused u_M_at u_M_begin u_M_kind u_M_value u_M_read u_M_acts u_M_act u_M_waits u_M_wait u_M_held u_M_heap u_M_clocks u_M_counts u_M_talking u_M_most u_M_hasA u_M_hasB u_M_talks u_M_big (v_M_place + 1) a_M_now)) rfl (fun H locs hP hD hS => ?_)
          refine lv_goto (tgt := 0) hx hb dX11_here_41 (by decide) ?_
          exact ih (v_M_place + 1) _ _ _ hl hP hD hS hg
  exact B0 zF v_M_place _ _ _ hl hP hD hS hg

/-! SpokenClockModel.takesUnit(I)I -/
abbrev ws_X11_takesUnit (cI cJ cZ cA : ClassId) (q_M q_M_now q_M_wait q_M_act : Nat) (u_M_images : Value) (u_M_kept : Value) (u_M_text : Value) (u_M_size : Value) (u_M_sign : Value) (u_M_manyAbove : Value) (u_M_manyBelow : Value) (u_M_above : Value) (u_M_below : Value) (u_M_refused : Value) (u_M_at : Value) (u_M_begin : Value) (u_M_kind : Value) (u_M_value : Value) (u_M_read : Value) (u_M_held : Value) (u_M_heap : Value) (u_M_clocks : Value) (u_M_counts : Value) (u_M_talking : Value) (u_M_most : Value) (u_M_hasA : Value) (u_M_hasB : Value) (u_M_talks : Value) (u_M_big : Value) (v_M_acts : Int32) (v_M_waits : Int32) (v_M_place : Int32) (a_M_now : Nat → Int32) (a_M_wait : Nat → Int32) (a_M_act : Nat → Int32) : va_W := [(q_M, .inr (11, [.ref q_M_now, u_M_images, u_M_kept, u_M_text, u_M_size, u_M_sign, u_M_manyAbove, u_M_manyBelow, u_M_above, u_M_below, u_M_refused, u_M_at, u_M_begin, u_M_kind, u_M_value, u_M_read, .int v_M_acts, .ref q_M_act, .int v_M_waits, .ref q_M_wait, u_M_held, .int v_M_place, u_M_heap, u_M_clocks, u_M_counts, u_M_talking, u_M_most, u_M_hasA, u_M_hasB, u_M_talks, u_M_big])), (q_M_now, .inl (cI, 155, .inl a_M_now)), (q_M_wait, .inl (cI, 80, .inl a_M_wait)), (q_M_act, .inl (cI, 80, .inl a_M_act))]
abbrev rm_X11_takesUnit : Room := { frames := 2, cells := 0, slots := 0, locals := 45 }
def g_X11_takesUnit_239 (a_M_now : Nat → Int32) (x1 : Int32) (t1 : Int32) (t2 : Int32) (v_M_acts : Int32) (v_M_waits : Int32) (v_M_place : Int32) (a_M_wait : Nat → Int32) (a_M_act : Nat → Int32) : Option (Int32 × Int32 × Int32 × Int32 × (Nat → Int32) × (Nat → Int32)) :=
  if t1 < 0 ∨ 80 ≤ t1.toNatClampNeg then none else
  some (0, v_M_acts, v_M_waits + 1, v_M_place + 1, upd a_M_wait (t1.toNatClampNeg) t2, a_M_act)
def g_X11_takesUnit_219 (a_M_now : Nat → Int32) (x1 : Int32) (x2 : Int32) (v_M_acts : Int32) (v_M_waits : Int32) (v_M_place : Int32) (a_M_wait : Nat → Int32) (a_M_act : Nat → Int32) : Option (Int32 × Int32 × Int32 × Int32 × (Nat → Int32) × (Nat → Int32)) :=
  if x2 = 45 then (
    g_X11_takesUnit_239 a_M_now x1 v_M_waits 126 v_M_acts v_M_waits v_M_place a_M_wait a_M_act
  ) else (
    g_X11_takesUnit_239 a_M_now x1 v_M_waits x2 v_M_acts v_M_waits v_M_place a_M_wait a_M_act
  )
def g_X11_takesUnit_191 (a_M_now : Nat → Int32) (x1 : Int32) (x2 : Int32) (v_M_acts : Int32) (v_M_waits : Int32) (v_M_place : Int32) (a_M_wait : Nat → Int32) (a_M_act : Nat → Int32) : Option (Int32 × Int32 × Int32 × Int32 × (Nat → Int32) × (Nat → Int32)) :=
  if x2 = 40 then (
    g_X11_takesUnit_219 a_M_now x1 x2 v_M_acts v_M_waits v_M_place a_M_wait a_M_act
  ) else (
    if x2 = 33 then (
      g_X11_takesUnit_219 a_M_now x1 x2 v_M_acts v_M_waits v_M_place a_M_wait a_M_act
    ) else (
      if x2 = 45 then (
        g_X11_takesUnit_219 a_M_now x1 x2 v_M_acts v_M_waits v_M_place a_M_wait a_M_act
      ) else (
        some ((10 * v_M_place) + 1, v_M_acts, v_M_waits, v_M_place, a_M_wait, a_M_act)
      )
    )
  )
def g_X11_takesUnit_106 (a_M_now : Nat → Int32) (x1 : Int32) (x4 : Int32) (v_M_acts : Int32) (v_M_waits : Int32) (v_M_place : Int32) (a_M_wait : Nat → Int32) (a_M_act : Nat → Int32) : Option (Int32 × Int32 × Int32 × Int32 × (Nat → Int32) × (Nat → Int32)) :=
  if v_M_acts < 0 ∨ 80 ≤ v_M_acts.toNatClampNeg then none else
  some (1, v_M_acts + 1, v_M_waits, v_M_place, a_M_wait, upd a_M_act (v_M_acts.toNatClampNeg) x4)
def g_X11_takesUnit_20b (a_M_now : Nat → Int32) (x1 : Int32) (k20 : Int32 → Int32 → Int32 → Int32 → Int32 → (Nat → Int32) → (Nat → Int32) → Option (Int32 × Int32 × Int32 × Int32 × (Nat → Int32) × (Nat → Int32))) (x3 : Int32) (x4 : Int32) (v_M_acts : Int32) (v_M_waits : Int32) (v_M_place : Int32) (a_M_wait : Nat → Int32) (a_M_act : Nat → Int32) : Option (Int32 × Int32 × Int32 × Int32 × (Nat → Int32) × (Nat → Int32)) :=
  if (a_M_now 7) ≤ v_M_place then (
    g_X11_takesUnit_106 a_M_now x1 x4 v_M_acts v_M_waits v_M_place a_M_wait a_M_act
  ) else (
    if (115 + v_M_place) < 0 ∨ 155 ≤ (115 + v_M_place).toNatClampNeg then none else
    (g_X11_isFigure (a_M_now ((115 + v_M_place).toNatClampNeg))).bind fun v11 =>
    if v11 = 0 then (
      g_X11_takesUnit_106 a_M_now x1 x4 v_M_acts v_M_waits v_M_place a_M_wait a_M_act
    ) else (
      if (v_M_place - x3) = 6 then (
        some ((10 * x3) + 2, v_M_acts, v_M_waits, v_M_place, a_M_wait, a_M_act)
      ) else (
        if (115 + v_M_place) < 0 ∨ 155 ≤ (115 + v_M_place).toNatClampNeg then none else
        k20 x3 (((10 * x4) + (a_M_now ((115 + v_M_place).toNatClampNeg))) - 48) v_M_acts v_M_waits (v_M_place + 1) a_M_wait a_M_act
      )
    )
  )
def g_X11_takesUnit_20 (a_M_now : Nat → Int32) (x1 : Int32) : Nat → Int32 → Int32 → Int32 → Int32 → Int32 → (Nat → Int32) → (Nat → Int32) → Option (Int32 × Int32 × Int32 × Int32 × (Nat → Int32) × (Nat → Int32))
  | 0, _, _, _, _, _, _, _ => none
  | n + 1, x3, x4, v_M_acts, v_M_waits, v_M_place, a_M_wait, a_M_act => g_X11_takesUnit_20b a_M_now x1 (g_X11_takesUnit_20 a_M_now x1 n) x3 x4 v_M_acts v_M_waits v_M_place a_M_wait a_M_act
def g_X11_takesUnit (a_M_now : Nat → Int32) (x1 : Int32) (v_M_acts : Int32) (v_M_waits : Int32) (v_M_place : Int32) (a_M_wait : Nat → Int32) (a_M_act : Nat → Int32) : Option (Int32 × Int32 × Int32 × Int32 × (Nat → Int32) × (Nat → Int32)) :=
  (g_X11_here a_M_now v_M_place).bind fun v1 =>
  (g_X11_isFigure v1.1).bind fun v3 =>
  if v3 = 0 then (
    (g_X11_isName v1.1).bind fun v5 =>
    if v5 = 0 then (
      if v1.1 = 40 then (
        if x1 = 8 then (
          some ((10 * v1.2) + 3, v_M_acts, v_M_waits, v1.2, a_M_wait, a_M_act)
        ) else (
          g_X11_takesUnit_191 a_M_now x1 v1.1 v_M_acts v_M_waits v1.2 a_M_wait a_M_act
        )
      ) else (
        g_X11_takesUnit_191 a_M_now x1 v1.1 v_M_acts v_M_waits v1.2 a_M_wait a_M_act
      )
    ) else (
      if v_M_acts < 0 ∨ 80 ≤ v_M_acts.toNatClampNeg then none else
      some (1, v_M_acts + 1, v_M_waits, v1.2 + 1, a_M_wait, upd a_M_act (v_M_acts.toNatClampNeg) (-v1.1))
    )
  ) else (
    g_X11_takesUnit_20 a_M_now x1 zF v1.2 0 v_M_acts v_M_waits v1.2 a_M_wait a_M_act
  )
theorem hd_X11_takesUnit : yX11_takesUnit.cls = RX11 ∧ yX11_takesUnit.cls ≠ "java/lang/invoke/MethodHandle" ∧ yX11_takesUnit.cls ≠ "java/lang/invoke/VarHandle" ∧ (parseMethodDescriptor yX11_takesUnit.desc).map (fun d => d.parameters.length) = some 1 := by decide +kernel
set_option maxHeartbeats 4000000 in
set_option maxRecDepth 100000 in
theorem c_X11_takesUnit (l : Launch) (D : va_G) (cI cJ cZ cA : ClassId) (ga : Nat → Nat) (q_M q_M_now q_M_wait q_M_act : Nat) (u_M_images : Value) (u_M_kept : Value) (u_M_text : Value) (u_M_size : Value) (u_M_sign : Value) (u_M_manyAbove : Value) (u_M_manyBelow : Value) (u_M_above : Value) (u_M_below : Value) (u_M_refused : Value) (u_M_at : Value) (u_M_begin : Value) (u_M_kind : Value) (u_M_value : Value) (u_M_read : Value) (u_M_held : Value) (u_M_heap : Value) (u_M_clocks : Value) (u_M_counts : Value) (u_M_talking : Value) (u_M_most : Value) (u_M_hasA : Value) (u_M_hasB : Value) (u_M_talks : Value) (u_M_big : Value) (v_M_acts : Int32) (v_M_waits : Int32) (v_M_place : Int32) (a_M_now : Nat → Int32) (a_M_wait : Nat → Int32) (a_M_act : Nat → Int32) (x1 : Int32) (o : Int32 × Int32 × Int32 × Int32 × (Nat → Int32) × (Nat → Int32)) (hg : g_X11_takesUnit a_M_now x1 v_M_acts v_M_waits v_M_place a_M_wait a_M_act = some o) : zM l yX11_takesUnit (Cond.code yX11_takesUnit cX11_takesUnit 5 (some .int) :: wsL_law) rm_X11_takesUnit D (zTy cI cJ cZ cA) ga [.ref q_M, .int x1] (ws_X11_takesUnit cI cJ cZ cA q_M q_M_now q_M_wait q_M_act u_M_images u_M_kept u_M_text u_M_size u_M_sign u_M_manyAbove u_M_manyBelow u_M_above u_M_below u_M_refused u_M_at u_M_begin u_M_kind u_M_value u_M_read u_M_held u_M_heap u_M_clocks u_M_counts u_M_talking u_M_most u_M_hasA u_M_hasB u_M_talks u_M_big v_M_acts v_M_waits v_M_place a_M_now a_M_wait a_M_act) (ws_X11_takesUnit cI cJ cZ cA q_M q_M_now q_M_wait q_M_act u_M_images u_M_kept u_M_text u_M_size u_M_sign u_M_manyAbove u_M_manyBelow u_M_above u_M_below u_M_refused u_M_at u_M_begin u_M_kind u_M_value u_M_read u_M_held u_M_heap u_M_clocks u_M_counts u_M_talking u_M_most u_M_hasA u_M_hasB u_M_talks u_M_big o.2.1 o.2.2.1 o.2.2.2.1 a_M_now o.2.2.2.2.1 o.2.2.2.2.2) (some (.int o.1)) := by
  refine zenterI (own := RX11) (by decide) rfl rfl (Nat.le_of_ble_eq_true rfl) ?_
  intro p e s m args below meth c A ls Q S hA hK hG hl hP hD hS hret0
  have hx := S.1
  have hb := S.2.1
  have ht : ∀ w, w ∈ wsL_law → w.before args s = true := fun w h => S.2.2.2.2 w (List.mem_cons_of_mem _ h)
  have hret : ∀ (r9 : Int32) (v_M_acts : Int32) (v_M_waits : Int32) (v_M_place : Int32) (a_M_wait : Nat → Int32) (a_M_act : Nat → Int32), (some (r9, v_M_acts, v_M_waits, v_M_place, a_M_wait, a_M_act) : Option (Int32 × Int32 × Int32 × Int32 × (Nat → Int32) × (Nat → Int32))) = some o → ∀ (H : Heap) (locs : List Loc) (pc : Nat) (ls : Array Slot), va_P D vwCl (ws_X11_takesUnit cI cJ cZ cA q_M q_M_now q_M_wait q_M_act u_M_images u_M_kept u_M_text u_M_size u_M_sign u_M_manyAbove u_M_manyBelow u_M_above u_M_below u_M_refused u_M_at u_M_begin u_M_kind u_M_value u_M_read u_M_held u_M_heap u_M_clocks u_M_counts u_M_talking u_M_most u_M_hasA u_M_hasB u_M_talks u_M_big v_M_acts v_M_waits v_M_place a_M_now a_M_wait a_M_act) H → va_S A s.heap H locs → decode cX11_takesUnit pc = .ok (.ireturn, 1) → W p l e rm_X11_takesUnit s m args below meth c H locs 0 0 Q (F0 m pc ls [.int r9]) := by
    intro r9 v_M_acts v_M_waits v_M_place a_M_wait a_M_act he; cases he; exact hret0
  have hl : lv_has ls 5 [(0, .ref q_M), (1, .int x1)] := hl
  have B239 : ∀ (t1 : Int32) (t2 : Int32) (v_M_acts : Int32) (v_M_waits : Int32) (v_M_place : Int32) (a_M_wait : Nat → Int32) (a_M_act : Nat → Int32) (H : Heap) (locs : List Loc) (ls : Array Slot) (hl : lv_has ls 5 [(0, .ref q_M)]) (hP : va_P D vwCl (ws_X11_takesUnit cI cJ cZ cA q_M q_M_now q_M_wait q_M_act u_M_images u_M_kept u_M_text u_M_size u_M_sign u_M_manyAbove u_M_manyBelow u_M_above u_M_below u_M_refused u_M_at u_M_begin u_M_kind u_M_value u_M_read u_M_held u_M_heap u_M_clocks u_M_counts u_M_talking u_M_most u_M_hasA u_M_hasB u_M_talks u_M_big v_M_acts v_M_waits v_M_place a_M_now a_M_wait a_M_act) H) (hD : va_D A (ws_X11_takesUnit cI cJ cZ cA q_M q_M_now q_M_wait q_M_act u_M_images u_M_kept u_M_text u_M_size u_M_sign u_M_manyAbove u_M_manyBelow u_M_above u_M_below u_M_refused u_M_at u_M_begin u_M_kind u_M_value u_M_read u_M_held u_M_heap u_M_clocks u_M_counts u_M_talking u_M_most u_M_hasA u_M_hasB u_M_talks u_M_big v_M_acts v_M_waits v_M_place a_M_now a_M_wait a_M_act)) (hS : va_S A s.heap H locs), g_X11_takesUnit_239 a_M_now x1 t1 t2 v_M_acts v_M_waits v_M_place a_M_wait a_M_act = some o → W p l e rm_X11_takesUnit s m args below meth c H locs 0 0 Q (F0 m 239 ls [.int t2, .int t1, .ref q_M_wait]) := by
    intro  t1 t2 v_M_acts v_M_waits v_M_place a_M_wait a_M_act H locs ls hl hP hD hS hg
    obtain ⟨h7, hg⟩ := zck hg
    refine ziast hx hb hK hP hD hS 2 0 rfl rfl (j := (t1.toNatClampNeg)) h7 rfl dX11_takesUnit_239 (w2 := (ws_X11_takesUnit cI cJ cZ cA q_M q_M_now q_M_wait q_M_act u_M_images u_M_kept u_M_text u_M_size u_M_sign u_M_manyAbove u_M_manyBelow u_M_above u_M_below u_M_refused u_M_at u_M_begin u_M_kind u_M_value u_M_read u_M_held u_M_heap u_M_clocks u_M_counts u_M_talking u_M_most u_M_hasA u_M_hasB u_M_talks u_M_big v_M_acts v_M_waits v_M_place a_M_now (upd a_M_wait (t1.toNatClampNeg) t2) a_M_act)) rfl (fun H locs hP hD hS => ?_)
    refine lv_aload_n hx hb dX11_takesUnit_240 rfl (lv_at hl 0 rfl) ?_
    refine lv_dup hx hb dX11_takesUnit_241 rfl ?_
    refine zget (C := RX11) (T := TX11) (N := 31) S hK hP 0 rfl rfl 18 (Nat.le_of_ble_eq_true rfl) zf_11 zw_596 rfl dX11_takesUnit_242 ?_
    refine lv_iconst (v := 1) hx hb dX11_takesUnit_245 (by decide) ?_
    refine lv_iadd hx hb dX11_takesUnit_246 ?_
    refine zputf (C := RX11) (T := TX11) (N := 31) (ty := .int) S hK hP hD hS 0 rfl rfl 18 (Nat.le_of_ble_eq_true rfl) zf_11 tyX11 tyX11_ok nmX11 zw_596 rfl (by decide +kernel) rfl rfl (Nat.le_of_ble_eq_true rfl) dX11_takesUnit_247 (w2 := (ws_X11_takesUnit cI cJ cZ cA q_M q_M_now q_M_wait q_M_act u_M_images u_M_kept u_M_text u_M_size u_M_sign u_M_manyAbove u_M_manyBelow u_M_above u_M_below u_M_refused u_M_at u_M_begin u_M_kind u_M_value u_M_read u_M_held u_M_heap u_M_clocks u_M_counts u_M_talking u_M_most u_M_hasA u_M_hasB u_M_talks u_M_big v_M_acts (v_M_waits + 1) v_M_place a_M_now (upd a_M_wait (t1.toNatClampNeg) t2) a_M_act)) rfl (fun H locs hP hD hS => ?_)
    refine lv_aload_n hx hb dX11_takesUnit_250 rfl (lv_at hl 0 rfl) ?_
    refine lv_dup hx hb dX11_takesUnit_251 rfl ?_
    refine zget (C := RX11) (T := TX11) (N := 31) S hK hP 0 rfl rfl 21 (Nat.le_of_ble_eq_true rfl) zf_11 zw_597 rfl dX11_takesUnit_252 ?_
    refine lv_iconst (v := 1) hx hb dX11_takesUnit_255 (by decide) ?_
    refine lv_iadd hx hb dX11_takesUnit_256 ?_
    refine zputf (C := RX11) (T := TX11) (N := 31) (ty := .int) S hK hP hD hS 0 rfl rfl 21 (Nat.le_of_ble_eq_true rfl) zf_11 tyX11 tyX11_ok nmX11 zw_597 rfl (by decide +kernel) rfl rfl (Nat.le_of_ble_eq_true rfl) dX11_takesUnit_257 (w2 := (ws_X11_takesUnit cI cJ cZ cA q_M q_M_now q_M_wait q_M_act u_M_images u_M_kept u_M_text u_M_size u_M_sign u_M_manyAbove u_M_manyBelow u_M_above u_M_below u_M_refused u_M_at u_M_begin u_M_kind u_M_value u_M_read u_M_held u_M_heap u_M_clocks u_M_counts u_M_talking u_M_most u_M_hasA u_M_hasB u_M_talks u_M_big v_M_acts (v_M_waits + 1) (v_M_place + 1) a_M_now (upd a_M_wait (t1.toNatClampNeg) t2) a_M_act)) rfl (fun H locs hP hD hS => ?_)
    refine lv_iconst (v := 0) hx hb dX11_takesUnit_260 (by decide) ?_
    exact hret 0 v_M_acts (v_M_waits + 1) (v_M_place + 1) (upd a_M_wait (t1.toNatClampNeg) t2) a_M_act hg _ _ _ _ hP hS dX11_takesUnit_261
  have B219 : ∀ (x2 : Int32) (v_M_acts : Int32) (v_M_waits : Int32) (v_M_place : Int32) (a_M_wait : Nat → Int32) (a_M_act : Nat → Int32) (H : Heap) (locs : List Loc) (ls : Array Slot) (hl : lv_has ls 5 [(0, .ref q_M), (2, .int x2)]) (hP : va_P D vwCl (ws_X11_takesUnit cI cJ cZ cA q_M q_M_now q_M_wait q_M_act u_M_images u_M_kept u_M_text u_M_size u_M_sign u_M_manyAbove u_M_manyBelow u_M_above u_M_below u_M_refused u_M_at u_M_begin u_M_kind u_M_value u_M_read u_M_held u_M_heap u_M_clocks u_M_counts u_M_talking u_M_most u_M_hasA u_M_hasB u_M_talks u_M_big v_M_acts v_M_waits v_M_place a_M_now a_M_wait a_M_act) H) (hD : va_D A (ws_X11_takesUnit cI cJ cZ cA q_M q_M_now q_M_wait q_M_act u_M_images u_M_kept u_M_text u_M_size u_M_sign u_M_manyAbove u_M_manyBelow u_M_above u_M_below u_M_refused u_M_at u_M_begin u_M_kind u_M_value u_M_read u_M_held u_M_heap u_M_clocks u_M_counts u_M_talking u_M_most u_M_hasA u_M_hasB u_M_talks u_M_big v_M_acts v_M_waits v_M_place a_M_now a_M_wait a_M_act)) (hS : va_S A s.heap H locs), g_X11_takesUnit_219 a_M_now x1 x2 v_M_acts v_M_waits v_M_place a_M_wait a_M_act = some o → W p l e rm_X11_takesUnit s m args below meth c H locs 0 0 Q (F0 m 219 ls []) := by
    intro  x2 v_M_acts v_M_waits v_M_place a_M_wait a_M_act H locs ls hl hP hD hS hg
    refine lv_aload_n hx hb dX11_takesUnit_219 rfl (lv_at hl 0 rfl) ?_
    refine zget (C := RX11) (T := TX11) (N := 31) S hK hP 0 rfl rfl 19 (Nat.le_of_ble_eq_true rfl) zf_11 zw_159 rfl dX11_takesUnit_220 ?_
    refine lv_aload_n hx hb dX11_takesUnit_223 rfl (lv_at hl 0 rfl) ?_
    refine zget (C := RX11) (T := TX11) (N := 31) S hK hP 0 rfl rfl 18 (Nat.le_of_ble_eq_true rfl) zf_11 zw_596 rfl dX11_takesUnit_224 ?_
    refine lv_iload_n hx hb dX11_takesUnit_227 rfl (lv_at hl 1 rfl) ?_
    refine lv_bipush (v := 45) hx hb dX11_takesUnit_228 (by decide) ?_
    refine lv_icmp_ne (tgt := 238) hx hb dX11_takesUnit_230 (by decide) (fun h230 => ?_) (fun h230 => ?_)
    · have hg := zn hg h230
      refine lv_iload_n hx hb dX11_takesUnit_238 rfl (lv_at hl 1 rfl) ?_
      exact B239 v_M_waits x2 v_M_acts v_M_waits v_M_place a_M_wait a_M_act _ _ _ (lv_sub hl [0] rfl) hP hD hS hg
    · have hg := zp hg h230
      refine lv_bipush (v := 126) hx hb dX11_takesUnit_233 (by decide) ?_
      refine lv_goto (tgt := 239) hx hb dX11_takesUnit_235 (by decide) ?_
      exact B239 v_M_waits 126 v_M_acts v_M_waits v_M_place a_M_wait a_M_act _ _ _ (lv_sub hl [0] rfl) hP hD hS hg
  have B191 : ∀ (x2 : Int32) (v_M_acts : Int32) (v_M_waits : Int32) (v_M_place : Int32) (a_M_wait : Nat → Int32) (a_M_act : Nat → Int32) (H : Heap) (locs : List Loc) (ls : Array Slot) (hl : lv_has ls 5 [(0, .ref q_M), (2, .int x2)]) (hP : va_P D vwCl (ws_X11_takesUnit cI cJ cZ cA q_M q_M_now q_M_wait q_M_act u_M_images u_M_kept u_M_text u_M_size u_M_sign u_M_manyAbove u_M_manyBelow u_M_above u_M_below u_M_refused u_M_at u_M_begin u_M_kind u_M_value u_M_read u_M_held u_M_heap u_M_clocks u_M_counts u_M_talking u_M_most u_M_hasA u_M_hasB u_M_talks u_M_big v_M_acts v_M_waits v_M_place a_M_now a_M_wait a_M_act) H) (hD : va_D A (ws_X11_takesUnit cI cJ cZ cA q_M q_M_now q_M_wait q_M_act u_M_images u_M_kept u_M_text u_M_size u_M_sign u_M_manyAbove u_M_manyBelow u_M_above u_M_below u_M_refused u_M_at u_M_begin u_M_kind u_M_value u_M_read u_M_held u_M_heap u_M_clocks u_M_counts u_M_talking u_M_most u_M_hasA u_M_hasB u_M_talks u_M_big v_M_acts v_M_waits v_M_place a_M_now a_M_wait a_M_act)) (hS : va_S A s.heap H locs), g_X11_takesUnit_191 a_M_now x1 x2 v_M_acts v_M_waits v_M_place a_M_wait a_M_act = some o → W p l e rm_X11_takesUnit s m args below meth c H locs 0 0 Q (F0 m 191 ls []) := by
    intro  x2 v_M_acts v_M_waits v_M_place a_M_wait a_M_act H locs ls hl hP hD hS hg
    refine lv_iload_n hx hb dX11_takesUnit_191 rfl (lv_at hl 1 rfl) ?_
    refine lv_bipush (v := 40) hx hb dX11_takesUnit_192 (by decide) ?_
    refine lv_icmp_eq (tgt := 219) hx hb dX11_takesUnit_194 (by decide) (fun h194 => ?_) (fun h194 => ?_)
    · have hg := zp hg h194
      exact B219 x2 v_M_acts v_M_waits v_M_place a_M_wait a_M_act _ _ _ hl hP hD hS hg
    · have hg := zn hg h194
      refine lv_iload_n hx hb dX11_takesUnit_197 rfl (lv_at hl 1 rfl) ?_
      refine lv_bipush (v := 33) hx hb dX11_takesUnit_198 (by decide) ?_
      refine lv_icmp_eq (tgt := 219) hx hb dX11_takesUnit_200 (by decide) (fun h200 => ?_) (fun h200 => ?_)
      · have hg := zp hg h200
        exact B219 x2 v_M_acts v_M_waits v_M_place a_M_wait a_M_act _ _ _ hl hP hD hS hg
      · have hg := zn hg h200
        refine lv_iload_n hx hb dX11_takesUnit_203 rfl (lv_at hl 1 rfl) ?_
        refine lv_bipush (v := 45) hx hb dX11_takesUnit_204 (by decide) ?_
        refine lv_icmp_eq (tgt := 219) hx hb dX11_takesUnit_206 (by decide) (fun h206 => ?_) (fun h206 => ?_)
        · have hg := zp hg h206
          exact B219 x2 v_M_acts v_M_waits v_M_place a_M_wait a_M_act _ _ _ hl hP hD hS hg
        · have hg := zn hg h206
          refine lv_bipush (v := 10) hx hb dX11_takesUnit_209 (by decide) ?_
          refine lv_aload_n hx hb dX11_takesUnit_211 rfl (lv_at hl 0 rfl) ?_
          refine zget (C := RX11) (T := TX11) (N := 31) S hK hP 0 rfl rfl 21 (Nat.le_of_ble_eq_true rfl) zf_11 zw_597 rfl dX11_takesUnit_212 ?_
          refine lv_imul hx hb dX11_takesUnit_215 ?_
          refine lv_iconst (v := 1) hx hb dX11_takesUnit_216 (by decide) ?_
          refine lv_iadd hx hb dX11_takesUnit_217 ?_
          exact hret ((10 * v_M_place) + 1) v_M_acts v_M_waits v_M_place a_M_wait a_M_act hg _ _ _ _ hP hS dX11_takesUnit_218
  have B106 : ∀ (x4 : Int32) (v_M_acts : Int32) (v_M_waits : Int32) (v_M_place : Int32) (a_M_wait : Nat → Int32) (a_M_act : Nat → Int32) (H : Heap) (locs : List Loc) (ls : Array Slot) (hl : lv_has ls 5 [(0, .ref q_M), (4, .int x4)]) (hP : va_P D vwCl (ws_X11_takesUnit cI cJ cZ cA q_M q_M_now q_M_wait q_M_act u_M_images u_M_kept u_M_text u_M_size u_M_sign u_M_manyAbove u_M_manyBelow u_M_above u_M_below u_M_refused u_M_at u_M_begin u_M_kind u_M_value u_M_read u_M_held u_M_heap u_M_clocks u_M_counts u_M_talking u_M_most u_M_hasA u_M_hasB u_M_talks u_M_big v_M_acts v_M_waits v_M_place a_M_now a_M_wait a_M_act) H) (hD : va_D A (ws_X11_takesUnit cI cJ cZ cA q_M q_M_now q_M_wait q_M_act u_M_images u_M_kept u_M_text u_M_size u_M_sign u_M_manyAbove u_M_manyBelow u_M_above u_M_below u_M_refused u_M_at u_M_begin u_M_kind u_M_value u_M_read u_M_held u_M_heap u_M_clocks u_M_counts u_M_talking u_M_most u_M_hasA u_M_hasB u_M_talks u_M_big v_M_acts v_M_waits v_M_place a_M_now a_M_wait a_M_act)) (hS : va_S A s.heap H locs), g_X11_takesUnit_106 a_M_now x1 x4 v_M_acts v_M_waits v_M_place a_M_wait a_M_act = some o → W p l e rm_X11_takesUnit s m args below meth c H locs 0 0 Q (F0 m 106 ls []) := by
    intro  x4 v_M_acts v_M_waits v_M_place a_M_wait a_M_act H locs ls hl hP hD hS hg
    refine lv_aload_n hx hb dX11_takesUnit_106 rfl (lv_at hl 0 rfl) ?_
    refine zget (C := RX11) (T := TX11) (N := 31) S hK hP 0 rfl rfl 17 (Nat.le_of_ble_eq_true rfl) zf_11 zw_158 rfl dX11_takesUnit_107 ?_
    refine lv_aload_n hx hb dX11_takesUnit_110 rfl (lv_at hl 0 rfl) ?_
    refine zget (C := RX11) (T := TX11) (N := 31) S hK hP 0 rfl rfl 16 (Nat.le_of_ble_eq_true rfl) zf_11 zw_595 rfl dX11_takesUnit_111 ?_
    refine lv_iload hx hb dX11_takesUnit_114 (lv_at hl 1 rfl) ?_
    obtain ⟨h9, hg⟩ := zck hg
    refine ziast hx hb hK hP hD hS 3 0 rfl rfl (j := (v_M_acts.toNatClampNeg)) h9 rfl dX11_takesUnit_116 (w2 := (ws_X11_takesUnit cI cJ cZ cA q_M q_M_now q_M_wait q_M_act u_M_images u_M_kept u_M_text u_M_size u_M_sign u_M_manyAbove u_M_manyBelow u_M_above u_M_below u_M_refused u_M_at u_M_begin u_M_kind u_M_value u_M_read u_M_held u_M_heap u_M_clocks u_M_counts u_M_talking u_M_most u_M_hasA u_M_hasB u_M_talks u_M_big v_M_acts v_M_waits v_M_place a_M_now a_M_wait (upd a_M_act (v_M_acts.toNatClampNeg) x4))) rfl (fun H locs hP hD hS => ?_)
    refine lv_aload_n hx hb dX11_takesUnit_117 rfl (lv_at hl 0 rfl) ?_
    refine lv_dup hx hb dX11_takesUnit_118 rfl ?_
    refine zget (C := RX11) (T := TX11) (N := 31) S hK hP 0 rfl rfl 16 (Nat.le_of_ble_eq_true rfl) zf_11 zw_595 rfl dX11_takesUnit_119 ?_
    refine lv_iconst (v := 1) hx hb dX11_takesUnit_122 (by decide) ?_
    refine lv_iadd hx hb dX11_takesUnit_123 ?_
    refine zputf (C := RX11) (T := TX11) (N := 31) (ty := .int) S hK hP hD hS 0 rfl rfl 16 (Nat.le_of_ble_eq_true rfl) zf_11 tyX11 tyX11_ok nmX11 zw_595 rfl (by decide +kernel) rfl rfl (Nat.le_of_ble_eq_true rfl) dX11_takesUnit_124 (w2 := (ws_X11_takesUnit cI cJ cZ cA q_M q_M_now q_M_wait q_M_act u_M_images u_M_kept u_M_text u_M_size u_M_sign u_M_manyAbove u_M_manyBelow u_M_above u_M_below u_M_refused u_M_at u_M_begin u_M_kind u_M_value u_M_read u_M_held u_M_heap u_M_clocks u_M_counts u_M_talking u_M_most u_M_hasA u_M_hasB u_M_talks u_M_big (v_M_acts + 1) v_M_waits v_M_place a_M_now a_M_wait (upd a_M_act (v_M_acts.toNatClampNeg) x4))) rfl (fun H locs hP hD hS => ?_)
    refine lv_iconst (v := 1) hx hb dX11_takesUnit_127 (by decide) ?_
    exact hret 1 (v_M_acts + 1) v_M_waits v_M_place a_M_wait (upd a_M_act (v_M_acts.toNatClampNeg) x4) hg _ _ _ _ hP hS dX11_takesUnit_128
  have B20 : ∀  (n : Nat) (x3 : Int32) (x4 : Int32) (v_M_acts : Int32) (v_M_waits : Int32) (v_M_place : Int32) (a_M_wait : Nat → Int32) (a_M_act : Nat → Int32) (H : Heap) (locs : List Loc) (ls : Array Slot) (hl : lv_has ls 5 [(0, .ref q_M), (3, .int x3), (4, .int x4)]) (hP : va_P D vwCl (ws_X11_takesUnit cI cJ cZ cA q_M q_M_now q_M_wait q_M_act u_M_images u_M_kept u_M_text u_M_size u_M_sign u_M_manyAbove u_M_manyBelow u_M_above u_M_below u_M_refused u_M_at u_M_begin u_M_kind u_M_value u_M_read u_M_held u_M_heap u_M_clocks u_M_counts u_M_talking u_M_most u_M_hasA u_M_hasB u_M_talks u_M_big v_M_acts v_M_waits v_M_place a_M_now a_M_wait a_M_act) H) (hD : va_D A (ws_X11_takesUnit cI cJ cZ cA q_M q_M_now q_M_wait q_M_act u_M_images u_M_kept u_M_text u_M_size u_M_sign u_M_manyAbove u_M_manyBelow u_M_above u_M_below u_M_refused u_M_at u_M_begin u_M_kind u_M_value u_M_read u_M_held u_M_heap u_M_clocks u_M_counts u_M_talking u_M_most u_M_hasA u_M_hasB u_M_talks u_M_big v_M_acts v_M_waits v_M_place a_M_now a_M_wait a_M_act)) (hS : va_S A s.heap H locs), g_X11_takesUnit_20 a_M_now x1 n x3 x4 v_M_acts v_M_waits v_M_place a_M_wait a_M_act = some o → W p l e rm_X11_takesUnit s m args below meth c H locs 0 0 Q (F0 m 20 ls []) := by
    intro  n
    induction n with
    | zero => intro x3 x4 v_M_acts v_M_waits v_M_place a_M_wait a_M_act H locs ls hl hP hD hS hg; exact nomatch (show (none : Option (Int32 × Int32 × Int32 × Int32 × (Nat → Int32) × (Nat → Int32))) = some o from hg)
    | succ n ih =>
      intro x3 x4 v_M_acts v_M_waits v_M_place a_M_wait a_M_act H locs ls hl hP hD hS hg
      have hg : g_X11_takesUnit_20b a_M_now x1 (g_X11_takesUnit_20 a_M_now x1 n) x3 x4 v_M_acts v_M_waits v_M_place a_M_wait a_M_act = some o := hg
      refine lv_aload_n hx hb dX11_takesUnit_20 rfl (lv_at hl 0 rfl) ?_
      refine zget (C := RX11) (T := TX11) (N := 31) S hK hP 0 rfl rfl 21 (Nat.le_of_ble_eq_true rfl) zf_11 zw_597 rfl dX11_takesUnit_21 ?_
      refine lv_aload_n hx hb dX11_takesUnit_24 rfl (lv_at hl 0 rfl) ?_
      refine zget (C := RX11) (T := TX11) (N := 31) S hK hP 0 rfl rfl 0 (Nat.le_of_ble_eq_true rfl) zf_11 zw_149 rfl dX11_takesUnit_25 ?_
      refine lv_bipush (v := 7) hx hb dX11_takesUnit_28 (by decide) ?_
      refine ziald hx hb hK hP 1 0 rfl rfl (j := 7) (zin (by decide)) (by decide) dX11_takesUnit_30 ?_
      refine lv_icmp_ge (tgt := 106) hx hb dX11_takesUnit_31 (by decide) (fun h31 => ?_) (fun h31 => ?_)
      · have hg := zp hg h31
        exact B106 x4 v_M_acts v_M_waits v_M_place a_M_wait a_M_act _ _ _ (lv_sub hl [0, 2] rfl) hP hD hS hg
      · have hg := zn hg h31
        refine lv_aload_n hx hb dX11_takesUnit_34 rfl (lv_at hl 0 rfl) ?_
        refine zget (C := RX11) (T := TX11) (N := 31) S hK hP 0 rfl rfl 0 (Nat.le_of_ble_eq_true rfl) zf_11 zw_149 rfl dX11_takesUnit_35 ?_
        refine lv_bipush (v := 115) hx hb dX11_takesUnit_38 (by decide) ?_
        refine lv_aload_n hx hb dX11_takesUnit_40 rfl (lv_at hl 0 rfl) ?_
        refine zget (C := RX11) (T := TX11) (N := 31) S hK hP 0 rfl rfl 21 (Nat.le_of_ble_eq_true rfl) zf_11 zw_597 rfl dX11_takesUnit_41 ?_
        refine lv_iadd hx hb dX11_takesUnit_44 ?_
        obtain ⟨h10, hg⟩ := zck hg
        refine ziald hx hb hK hP 1 0 rfl rfl (j := ((115 + v_M_place).toNatClampNeg)) h10 rfl dX11_takesUnit_45 ?_
        obtain ⟨v11, hc12, hg⟩ := zbd hg
        refine zcallS (rest := []) S (c_X11_isFigure l D cI cJ cZ cA ga (a_M_now ((115 + v_M_place).toNatClampNeg)) v11 hc12) (zgS zw_479 zw_480 zw_5 zw_481) rfl hd_X11_isFigure ⟨rfl, rfl⟩ ⟨Nat.le_of_ble_eq_true rfl, Nat.le_of_ble_eq_true rfl⟩ rfl hl.1 rfl (Nat.le_of_ble_eq_true rfl) dX11_takesUnit_46 hP hD hS hA hK hG (isC := []) rfl (by decide +kernel) rfl ⟨Nat.zero_le _, Nat.zero_le _⟩ (pl := [none, none, none, none]) (nw := 4) rfl (by decide +kernel) (w2 := (ws_X11_takesUnit cI cJ cZ cA q_M q_M_now q_M_wait q_M_act u_M_images u_M_kept u_M_text u_M_size u_M_sign u_M_manyAbove u_M_manyBelow u_M_above u_M_below u_M_refused u_M_at u_M_begin u_M_kind u_M_value u_M_read u_M_held u_M_heap u_M_clocks u_M_counts u_M_talking u_M_most u_M_hasA u_M_hasB u_M_talks u_M_big v_M_acts v_M_waits v_M_place a_M_now a_M_wait a_M_act)) rfl (st1 := [.int v11]) rfl (fun H locs hP hD hS => ?_)
        refine lv_if_eq (tgt := 106) hx hb dX11_takesUnit_49 (by decide) (fun h49 => ?_) (fun h49 => ?_)
        · have hg := zp hg h49
          exact B106 x4 v_M_acts v_M_waits v_M_place a_M_wait a_M_act _ _ _ (lv_sub hl [0, 2] rfl) hP hD hS hg
        · have hg := zn hg h49
          refine lv_aload_n hx hb dX11_takesUnit_52 rfl (lv_at hl 0 rfl) ?_
          refine zget (C := RX11) (T := TX11) (N := 31) S hK hP 0 rfl rfl 21 (Nat.le_of_ble_eq_true rfl) zf_11 zw_597 rfl dX11_takesUnit_53 ?_
          refine lv_iload_n hx hb dX11_takesUnit_56 rfl (lv_at hl 1 rfl) ?_
          refine lv_isub hx hb dX11_takesUnit_57 ?_
          refine lv_bipush (v := 6) hx hb dX11_takesUnit_58 (by decide) ?_
          refine lv_icmp_ne (tgt := 70) hx hb dX11_takesUnit_60 (by decide) (fun h60 => ?_) (fun h60 => ?_)
          · have hg := zn hg h60
            refine lv_bipush (v := 10) hx hb dX11_takesUnit_70 (by decide) ?_
            refine lv_iload hx hb dX11_takesUnit_72 (lv_at hl 2 rfl) ?_
            refine lv_imul hx hb dX11_takesUnit_74 ?_
            refine lv_aload_n hx hb dX11_takesUnit_75 rfl (lv_at hl 0 rfl) ?_
            refine zget (C := RX11) (T := TX11) (N := 31) S hK hP 0 rfl rfl 0 (Nat.le_of_ble_eq_true rfl) zf_11 zw_149 rfl dX11_takesUnit_76 ?_
            refine lv_bipush (v := 115) hx hb dX11_takesUnit_79 (by decide) ?_
            refine lv_aload_n hx hb dX11_takesUnit_81 rfl (lv_at hl 0 rfl) ?_
            refine zget (C := RX11) (T := TX11) (N := 31) S hK hP 0 rfl rfl 21 (Nat.le_of_ble_eq_true rfl) zf_11 zw_597 rfl dX11_takesUnit_82 ?_
            refine lv_iadd hx hb dX11_takesUnit_85 ?_
            obtain ⟨h13, hg⟩ := zck hg
            refine ziald hx hb hK hP 1 0 rfl rfl (j := ((115 + v_M_place).toNatClampNeg)) h13 rfl dX11_takesUnit_86 ?_
            refine lv_iadd hx hb dX11_takesUnit_87 ?_
            refine lv_bipush (v := 48) hx hb dX11_takesUnit_88 (by decide) ?_
            refine lv_isub hx hb dX11_takesUnit_90 ?_
            refine lv_istore (lv' := [(4, .int (((10 * x4) + (a_M_now ((115 + v_M_place).toNatClampNeg))) - 48)), (0, .ref q_M), (3, .int x3)]) hx hb dX11_takesUnit_91 hl (by decide) rfl (fun ls hl => ?_)
            refine lv_aload_n hx hb dX11_takesUnit_93 rfl (lv_at hl 1 rfl) ?_
            refine lv_dup hx hb dX11_takesUnit_94 rfl ?_
            refine zget (C := RX11) (T := TX11) (N := 31) S hK hP 0 rfl rfl 21 (Nat.le_of_ble_eq_true rfl) zf_11 zw_597 rfl dX11_takesUnit_95 ?_
            refine lv_iconst (v := 1) hx hb dX11_takesUnit_98 (by decide) ?_
            refine lv_iadd hx hb dX11_takesUnit_99 ?_
            refine zputf (C := RX11) (T := TX11) (N := 31) (ty := .int) S hK hP hD hS 0 rfl rfl 21 (Nat.le_of_ble_eq_true rfl) zf_11 tyX11 tyX11_ok nmX11 zw_597 rfl (by decide +kernel) rfl rfl (Nat.le_of_ble_eq_true rfl) dX11_takesUnit_100 (w2 := (ws_X11_takesUnit cI cJ cZ cA q_M q_M_now q_M_wait q_M_act u_M_images u_M_kept u_M_text u_M_size u_M_sign u_M_manyAbove u_M_manyBelow u_M_above u_M_below u_M_refused u_M_at u_M_begin u_M_kind u_M_value u_M_read u_M_held u_M_heap u_M_clocks u_M_counts u_M_talking u_M_most u_M_hasA u_M_hasB u_M_talks u_M_big v_M_acts v_M_waits (v_M_place + 1) a_M_now a_M_wait a_M_act)) rfl (fun H locs hP hD hS => ?_)
            refine lv_goto (tgt := 20) hx hb dX11_takesUnit_103 (by decide) ?_
            exact ih x3 (((10 * x4) + (a_M_now ((115 + v_M_place).toNatClampNeg))) - 48) v_M_acts v_M_waits (v_M_place + 1) a_M_wait a_M_act _ _ _ (lv_sub hl [1, 2, 0] rfl) hP hD hS hg
          · have hg := zp hg h60
            refine lv_bipush (v := 10) hx hb dX11_takesUnit_63 (by decide) ?_
            refine lv_iload_n hx hb dX11_takesUnit_65 rfl (lv_at hl 1 rfl) ?_
            refine lv_imul hx hb dX11_takesUnit_66 ?_
            refine lv_iconst (v := 2) hx hb dX11_takesUnit_67 (by decide) ?_
            refine lv_iadd hx hb dX11_takesUnit_68 ?_
            exact hret ((10 * x3) + 2) v_M_acts v_M_waits v_M_place a_M_wait a_M_act hg _ _ _ _ hP hS dX11_takesUnit_69
  refine lv_aload_n hx hb dX11_takesUnit_0 rfl (lv_at hl 0 rfl) ?_
  obtain ⟨v1, hc2, hg⟩ := zbd hg
  refine zcallV (rest := []) S (c_X11_here l D cI cJ cZ cA ga q_M q_M_now u_M_images u_M_kept u_M_text u_M_size u_M_sign u_M_manyAbove u_M_manyBelow u_M_above u_M_below u_M_refused u_M_at u_M_begin u_M_kind u_M_value u_M_read (.int v_M_acts) (.ref q_M_act) (.int v_M_waits) (.ref q_M_wait) u_M_held u_M_heap u_M_clocks u_M_counts u_M_talking u_M_most u_M_hasA u_M_hasB u_M_talks u_M_big v_M_place a_M_now v1 hc2) (zgV zw_602 zw_603 zw_604 zw_5 zw_605) rfl hd_X11_here ⟨rfl, rfl⟩ ⟨Nat.le_of_ble_eq_true rfl, Nat.le_of_ble_eq_true rfl⟩ 0 11 rfl rfl rfl hl.1 rfl (Nat.le_of_ble_eq_true rfl) dX11_takesUnit_1 hP hD hS hA hK hG (isC := [0, 1]) rfl (by decide +kernel) rfl ⟨Nat.zero_le _, Nat.zero_le _⟩ (pl := [some 0, some 1, none, none]) (nw := 4) rfl (by decide +kernel) (w2 := (ws_X11_takesUnit cI cJ cZ cA q_M q_M_now q_M_wait q_M_act u_M_images u_M_kept u_M_text u_M_size u_M_sign u_M_manyAbove u_M_manyBelow u_M_above u_M_below u_M_refused u_M_at u_M_begin u_M_kind u_M_value u_M_read u_M_held u_M_heap u_M_clocks u_M_counts u_M_talking u_M_most u_M_hasA u_M_hasB u_M_talks u_M_big v_M_acts v_M_waits v1.2 a_M_now a_M_wait a_M_act)) rfl (st1 := [.int v1.1]) rfl (fun H locs hP hD hS => ?_)
  refine lv_istore_n (lv' := [(2, .int v1.1), (0, .ref q_M), (1, .int x1)]) hx hb dX11_takesUnit_4 rfl hl (by decide) rfl (fun ls hl => ?_)
  refine lv_iload_n hx hb dX11_takesUnit_5 rfl (lv_at hl 0 rfl) ?_
  obtain ⟨v3, hc4, hg⟩ := zbd hg
  refine zcallS (rest := []) S (c_X11_isFigure l D cI cJ cZ cA ga v1.1 v3 hc4) (zgS zw_479 zw_480 zw_5 zw_481) rfl hd_X11_isFigure ⟨rfl, rfl⟩ ⟨Nat.le_of_ble_eq_true rfl, Nat.le_of_ble_eq_true rfl⟩ rfl hl.1 rfl (Nat.le_of_ble_eq_true rfl) dX11_takesUnit_6 hP hD hS hA hK hG (isC := []) rfl (by decide +kernel) rfl ⟨Nat.zero_le _, Nat.zero_le _⟩ (pl := [none, none, none, none]) (nw := 4) rfl (by decide +kernel) (w2 := (ws_X11_takesUnit cI cJ cZ cA q_M q_M_now q_M_wait q_M_act u_M_images u_M_kept u_M_text u_M_size u_M_sign u_M_manyAbove u_M_manyBelow u_M_above u_M_below u_M_refused u_M_at u_M_begin u_M_kind u_M_value u_M_read u_M_held u_M_heap u_M_clocks u_M_counts u_M_talking u_M_most u_M_hasA u_M_hasB u_M_talks u_M_big v_M_acts v_M_waits v1.2 a_M_now a_M_wait a_M_act)) rfl (st1 := [.int v3]) rfl (fun H locs hP hD hS => ?_)
  refine lv_if_eq (tgt := 129) hx hb dX11_takesUnit_9 (by decide) (fun h9 => ?_) (fun h9 => ?_)
  · have hg := zp hg h9
    refine lv_iload_n hx hb dX11_takesUnit_129 rfl (lv_at hl 0 rfl) ?_
    obtain ⟨v5, hc6, hg⟩ := zbd hg
    refine zcallS (rest := []) S (c_X11_isName l D cI cJ cZ cA ga v1.1 v5 hc6) (zgS zw_606 zw_607 zw_5 zw_608) rfl hd_X11_isName ⟨rfl, rfl⟩ ⟨Nat.le_of_ble_eq_true rfl, Nat.le_of_ble_eq_true rfl⟩ rfl hl.1 rfl (Nat.le_of_ble_eq_true rfl) dX11_takesUnit_130 hP hD hS hA hK hG (isC := []) rfl (by decide +kernel) rfl ⟨Nat.zero_le _, Nat.zero_le _⟩ (pl := [none, none, none, none]) (nw := 4) rfl (by decide +kernel) (w2 := (ws_X11_takesUnit cI cJ cZ cA q_M q_M_now q_M_wait q_M_act u_M_images u_M_kept u_M_text u_M_size u_M_sign u_M_manyAbove u_M_manyBelow u_M_above u_M_below u_M_refused u_M_at u_M_begin u_M_kind u_M_value u_M_read u_M_held u_M_heap u_M_clocks u_M_counts u_M_talking u_M_most u_M_hasA u_M_hasB u_M_talks u_M_big v_M_acts v_M_waits v1.2 a_M_now a_M_wait a_M_act)) rfl (st1 := [.int v5]) rfl (fun H locs hP hD hS => ?_)
    refine lv_if_eq (tgt := 169) hx hb dX11_takesUnit_133 (by decide) (fun h133 => ?_) (fun h133 => ?_)
    · have hg := zp hg h133
      refine lv_iload_n hx hb dX11_takesUnit_169 rfl (lv_at hl 0 rfl) ?_
      refine lv_bipush (v := 40) hx hb dX11_takesUnit_170 (by decide) ?_
      refine lv_icmp_ne (tgt := 191) hx hb dX11_takesUnit_172 (by decide) (fun h172 => ?_) (fun h172 => ?_)
      · have hg := zn hg h172
        exact B191 v1.1 v_M_acts v_M_waits v1.2 a_M_wait a_M_act _ _ _ (lv_sub hl [1, 0] rfl) hP hD hS hg
      · have hg := zp hg h172
        refine lv_iload_n hx hb dX11_takesUnit_175 rfl (lv_at hl 2 rfl) ?_
        refine lv_bipush (v := 8) hx hb dX11_takesUnit_176 (by decide) ?_
        refine lv_icmp_ne (tgt := 191) hx hb dX11_takesUnit_178 (by decide) (fun h178 => ?_) (fun h178 => ?_)
        · have hg := zn hg h178
          exact B191 v1.1 v_M_acts v_M_waits v1.2 a_M_wait a_M_act _ _ _ (lv_sub hl [1, 0] rfl) hP hD hS hg
        · have hg := zp hg h178
          refine lv_bipush (v := 10) hx hb dX11_takesUnit_181 (by decide) ?_
          refine lv_aload_n hx hb dX11_takesUnit_183 rfl (lv_at hl 1 rfl) ?_
          refine zget (C := RX11) (T := TX11) (N := 31) S hK hP 0 rfl rfl 21 (Nat.le_of_ble_eq_true rfl) zf_11 zw_597 rfl dX11_takesUnit_184 ?_
          refine lv_imul hx hb dX11_takesUnit_187 ?_
          refine lv_iconst (v := 3) hx hb dX11_takesUnit_188 (by decide) ?_
          refine lv_iadd hx hb dX11_takesUnit_189 ?_
          exact hret ((10 * v1.2) + 3) v_M_acts v_M_waits v1.2 a_M_wait a_M_act hg _ _ _ _ hP hS dX11_takesUnit_190
    · have hg := zn hg h133
      refine lv_aload_n hx hb dX11_takesUnit_136 rfl (lv_at hl 1 rfl) ?_
      refine zget (C := RX11) (T := TX11) (N := 31) S hK hP 0 rfl rfl 17 (Nat.le_of_ble_eq_true rfl) zf_11 zw_158 rfl dX11_takesUnit_137 ?_
      refine lv_aload_n hx hb dX11_takesUnit_140 rfl (lv_at hl 1 rfl) ?_
      refine zget (C := RX11) (T := TX11) (N := 31) S hK hP 0 rfl rfl 16 (Nat.le_of_ble_eq_true rfl) zf_11 zw_595 rfl dX11_takesUnit_141 ?_
      refine lv_iload_n hx hb dX11_takesUnit_144 rfl (lv_at hl 0 rfl) ?_
      refine lv_ineg hx hb dX11_takesUnit_145 ?_
      obtain ⟨h8, hg⟩ := zck hg
      refine ziast hx hb hK hP hD hS 3 0 rfl rfl (j := (v_M_acts.toNatClampNeg)) h8 rfl dX11_takesUnit_146 (w2 := (ws_X11_takesUnit cI cJ cZ cA q_M q_M_now q_M_wait q_M_act u_M_images u_M_kept u_M_text u_M_size u_M_sign u_M_manyAbove u_M_manyBelow u_M_above u_M_below u_M_refused u_M_at u_M_begin u_M_kind u_M_value u_M_read u_M_held u_M_heap u_M_clocks u_M_counts u_M_talking u_M_most u_M_hasA u_M_hasB u_M_talks u_M_big v_M_acts v_M_waits v1.2 a_M_now a_M_wait (upd a_M_act (v_M_acts.toNatClampNeg) (-v1.1)))) rfl (fun H locs hP hD hS => ?_)
      refine lv_aload_n hx hb dX11_takesUnit_147 rfl (lv_at hl 1 rfl) ?_
      refine lv_dup hx hb dX11_takesUnit_148 rfl ?_
      refine zget (C := RX11) (T := TX11) (N := 31) S hK hP 0 rfl rfl 16 (Nat.le_of_ble_eq_true rfl) zf_11 zw_595 rfl dX11_takesUnit_149 ?_
      refine lv_iconst (v := 1) hx hb dX11_takesUnit_152 (by decide) ?_
      refine lv_iadd hx hb dX11_takesUnit_153 ?_
      refine zputf (C := RX11) (T := TX11) (N := 31) (ty := .int) S hK hP hD hS 0 rfl rfl 16 (Nat.le_of_ble_eq_true rfl) zf_11 tyX11 tyX11_ok nmX11 zw_595 rfl (by decide +kernel) rfl rfl (Nat.le_of_ble_eq_true rfl) dX11_takesUnit_154 (w2 := (ws_X11_takesUnit cI cJ cZ cA q_M q_M_now q_M_wait q_M_act u_M_images u_M_kept u_M_text u_M_size u_M_sign u_M_manyAbove u_M_manyBelow u_M_above u_M_below u_M_refused u_M_at u_M_begin u_M_kind u_M_value u_M_read u_M_held u_M_heap u_M_clocks u_M_counts u_M_talking u_M_most u_M_hasA u_M_hasB u_M_talks u_M_big (v_M_acts + 1) v_M_waits v1.2 a_M_now a_M_wait (upd a_M_act (v_M_acts.toNatClampNeg) (-v1.1)))) rfl (fun H locs hP hD hS => ?_)
      refine lv_aload_n hx hb dX11_takesUnit_157 rfl (lv_at hl 1 rfl) ?_
      refine lv_dup hx hb dX11_takesUnit_158 rfl ?_
      refine zget (C := RX11) (T := TX11) (N := 31) S hK hP 0 rfl rfl 21 (Nat.le_of_ble_eq_true rfl) zf_11 zw_597 rfl dX11_takesUnit_159 ?_
      refine lv_iconst (v := 1) hx hb dX11_takesUnit_162 (by decide) ?_
      refine lv_iadd hx hb dX11_takesUnit_163 ?_
      refine zputf (C := RX11) (T := TX11) (N := 31) (ty := .int) S hK hP hD hS 0 rfl rfl 21 (Nat.le_of_ble_eq_true rfl) zf_11 tyX11 tyX11_ok nmX11 zw_597 rfl (by decide +kernel) rfl rfl (Nat.le_of_ble_eq_true rfl) dX11_takesUnit_164 (w2 := (ws_X11_takesUnit cI cJ cZ cA q_M q_M_now q_M_wait q_M_act u_M_images u_M_kept u_M_text u_M_size u_M_sign u_M_manyAbove u_M_manyBelow u_M_above u_M_below u_M_refused u_M_at u_M_begin u_M_kind u_M_value u_M_read u_M_held u_M_heap u_M_clocks u_M_counts u_M_talking u_M_most u_M_hasA u_M_hasB u_M_talks u_M_big (v_M_acts + 1) v_M_waits (v1.2 + 1) a_M_now a_M_wait (upd a_M_act (v_M_acts.toNatClampNeg) (-v1.1)))) rfl (fun H locs hP hD hS => ?_)
      refine lv_iconst (v := 1) hx hb dX11_takesUnit_167 (by decide) ?_
      exact hret 1 (v_M_acts + 1) v_M_waits (v1.2 + 1) a_M_wait (upd a_M_act (v_M_acts.toNatClampNeg) (-v1.1)) hg _ _ _ _ hP hS dX11_takesUnit_168
  · have hg := zn hg h9
    refine lv_aload_n hx hb dX11_takesUnit_12 rfl (lv_at hl 1 rfl) ?_
    refine zget (C := RX11) (T := TX11) (N := 31) S hK hP 0 rfl rfl 21 (Nat.le_of_ble_eq_true rfl) zf_11 zw_597 rfl dX11_takesUnit_13 ?_
    refine lv_istore_n (lv' := [(3, .int v1.2), (2, .int v1.1), (0, .ref q_M), (1, .int x1)]) hx hb dX11_takesUnit_16 rfl hl (by decide) rfl (fun ls hl => ?_)
    refine lv_iconst (v := 0) hx hb dX11_takesUnit_17 (by decide) ?_
    refine lv_istore (lv' := [(4, .int 0), (3, .int v1.2), (2, .int v1.1), (0, .ref q_M), (1, .int x1)]) hx hb dX11_takesUnit_18 hl (by decide) rfl (fun ls hl => ?_)
    exact B20 zF v1.2 0 v_M_acts v_M_waits v1.2 a_M_wait a_M_act _ _ _ (lv_sub hl [3, 1, 0] rfl) hP hD hS hg

