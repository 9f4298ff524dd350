/-! SpokenClockModel.clock(II)I -/
abbrev ws_X11_clock (cI cJ cZ cA : ClassId) (q_M q_M_refused q_M_held q_M_now q_M_wait q_M_act q_M_clocks q_M_counts q_M_talking q_M_heap : Nat) (u_M_images : Value) (u_M_kept : Value) (u_M_text : Value) (u_M_size : Value) (u_M_sign : Value) (u_M_manyAbove : Value) (u_M_manyBelow : Value) (u_M_above : Value) (u_M_below : Value) (u_M_at : Value) (u_M_begin : Value) (u_M_kind : Value) (u_M_value : Value) (u_M_read : Value) (u_M_most : Value) (u_M_hasA : Value) (u_M_hasB : Value) (u_M_talks : Value) (u_M_big : Value) (v_M_acts : Int32) (v_M_waits : Int32) (v_M_place : Int32) (a_M_refused : Nat → Int32) (a_M_held : Nat → Int32) (a_M_now : Nat → Int32) (a_M_wait : Nat → Int32) (a_M_act : Nat → Int32) (a_M_clocks : Nat → Int32) (a_M_counts : Nat → Int32) (a_M_talking : Nat → Int32) (a_M_heap : Nat → Int64) : va_W := [(q_M, .inr (11, [.ref q_M_now, u_M_images, u_M_kept, u_M_text, u_M_size, u_M_sign, u_M_manyAbove, u_M_manyBelow, u_M_above, u_M_below, .ref q_M_refused, u_M_at, u_M_begin, u_M_kind, u_M_value, u_M_read, .int v_M_acts, .ref q_M_act, .int v_M_waits, .ref q_M_wait, .ref q_M_held, .int v_M_place, .ref q_M_heap, .ref q_M_clocks, .ref q_M_counts, .ref q_M_talking, u_M_most, u_M_hasA, u_M_hasB, u_M_talks, u_M_big])), (q_M_refused, .inl (cI, 3, .inl a_M_refused)), (q_M_held, .inl (cZ, 9, .inl a_M_held)), (q_M_now, .inl (cI, 155, .inl a_M_now)), (q_M_wait, .inl (cI, 80, .inl a_M_wait)), (q_M_act, .inl (cI, 80, .inl a_M_act)), (q_M_clocks, .inl (cI, 482, .inl a_M_clocks)), (q_M_counts, .inl (cI, 1200, .inl a_M_counts)), (q_M_talking, .inl (cZ, 1200, .inl a_M_talking)), (q_M_heap, .inl (cJ, 41, .inr (.inl a_M_heap)))]
abbrev rm_X11_clock : Room := { frames := 5, cells := 0, slots := 0, locals := 120 }
def g_X11_clock_22 (a_M_now : Nat → Int32) (x1 : Int32) (x2 : Int32) (v_M_acts : Int32) (v_M_waits : Int32) (v_M_place : Int32) (a_M_refused : Nat → Int32) (a_M_held : Nat → Int32) (a_M_wait : Nat → Int32) (a_M_act : Nat → Int32) (a_M_clocks : Nat → Int32) (a_M_counts : Nat → Int32) (a_M_talking : Nat → Int32) (a_M_heap : Nat → Int64) : Option (Int32 × Int32 × Int32 × Int32 × (Nat → Int32) × (Nat → Int32) × (Nat → Int32) × (Nat → Int32) × (Nat → Int32) × (Nat → Int32) × (Nat → Int32) × (Nat → Int64)) :=
  (g_X11_refuse (-2) a_M_refused).bind fun v3 =>
  some (v3.1, v_M_acts, v_M_waits, v_M_place, v3.2, a_M_held, a_M_wait, a_M_act, a_M_clocks, a_M_counts, a_M_talking, a_M_heap)
def g_X11_clock (a_M_now : Nat → Int32) (x1 : Int32) (x2 : Int32) (v_M_acts : Int32) (v_M_waits : Int32) (v_M_place : Int32) (a_M_refused : Nat → Int32) (a_M_held : Nat → Int32) (a_M_wait : Nat → Int32) (a_M_act : Nat → Int32) (a_M_clocks : Nat → Int32) (a_M_counts : Nat → Int32) (a_M_talking : Nat → Int32) (a_M_heap : Nat → Int64) : Option (Int32 × Int32 × Int32 × Int32 × (Nat → Int32) × (Nat → Int32) × (Nat → Int32) × (Nat → Int32) × (Nat → Int32) × (Nat → Int32) × (Nat → Int32) × (Nat → Int64)) :=
  (g_X11_in x1.toInt64 (0 : Int64) (1 : Int64)).bind fun v1 =>
  if v1 = 0 then (
    g_X11_clock_22 a_M_now x1 x2 v_M_acts v_M_waits v_M_place a_M_refused a_M_held a_M_wait a_M_act a_M_clocks a_M_counts a_M_talking a_M_heap
  ) else (
    (g_X11_in x2.toInt64 (0 : Int64) (240 : Int64)).bind fun v5 =>
    if v5 = 0 then (
      g_X11_clock_22 a_M_now x1 x2 v_M_acts v_M_waits v_M_place a_M_refused a_M_held a_M_wait a_M_act a_M_clocks a_M_counts a_M_talking a_M_heap
    ) else (
      (g_X11_winds a_M_now 31 v_M_acts v_M_waits v_M_place a_M_held a_M_wait a_M_act a_M_clocks a_M_counts a_M_talking a_M_heap).bind fun v7 =>
      if ((241 * x1) + x2) < 0 ∨ 482 ≤ ((241 * x1) + x2).toNatClampNeg then none else
      some (v7.2.2.2.2.2.2.1 (((241 * x1) + x2).toNatClampNeg), v7.1, v7.2.1, v7.2.2.1, a_M_refused, v7.2.2.2.1, v7.2.2.2.2.1, v7.2.2.2.2.2.1, v7.2.2.2.2.2.2.1, v7.2.2.2.2.2.2.2.1, v7.2.2.2.2.2.2.2.2.1, v7.2.2.2.2.2.2.2.2.2)
    )
  )
theorem hd_X11_clock : yX11_clock.cls = RX11 ∧ yX11_clock.cls ≠ "java/lang/invoke/MethodHandle" ∧ yX11_clock.cls ≠ "java/lang/invoke/VarHandle" ∧ (parseMethodDescriptor yX11_clock.desc).map (fun d => d.parameters.length) = some 2 := by decide +kernel
set_option maxHeartbeats 4000000 in
set_option maxRecDepth 100000 in
theorem c_X11_clock (l : Launch) (D : va_G) (cI cJ cZ cA : ClassId) (ga : Nat → Nat) (q_M q_M_refused q_M_held q_M_now q_M_wait q_M_act q_M_clocks q_M_counts q_M_talking q_M_heap : Nat) (u_M_images : Value) (u_M_kept : Value) (u_M_text : Value) (u_M_size : Value) (u_M_sign : Value) (u_M_manyAbove : Value) (u_M_manyBelow : Value) (u_M_above : Value) (u_M_below : Value) (u_M_at : Value) (u_M_begin : Value) (u_M_kind : Value) (u_M_value : Value) (u_M_read : Value) (u_M_most : Value) (u_M_hasA : Value) (u_M_hasB : Value) (u_M_talks : Value) (u_M_big : Value) (v_M_acts : Int32) (v_M_waits : Int32) (v_M_place : Int32) (a_M_refused : Nat → Int32) (a_M_held : Nat → Int32) (a_M_now : Nat → Int32) (a_M_wait : Nat → Int32) (a_M_act : Nat → Int32) (a_M_clocks : Nat → Int32) (a_M_counts : Nat → Int32) (a_M_talking : Nat → Int32) (a_M_heap : Nat → Int64) (x1 : Int32) (x2 : Int32) (o : Int32 × Int32 × Int32 × Int32 × (Nat → Int32) × (Nat → Int32) × (Nat → Int32) × (Nat → Int32) × (Nat → Int32) × (Nat → Int32) × (Nat → Int32) × (Nat → Int64)) (hg : g_X11_clock a_M_now x1 x2 v_M_acts v_M_waits v_M_place a_M_refused a_M_held a_M_wait a_M_act a_M_clocks a_M_counts a_M_talking a_M_heap = some o) : zM l yX11_clock (Cond.code yX11_clock cX11_clock 3 (some .int) :: wsL_law) rm_X11_clock D (zTy cI cJ cZ cA) ga [.ref q_M, .int x1, .int x2] (ws_X11_clock cI cJ cZ cA q_M q_M_refused q_M_held q_M_now q_M_wait q_M_act q_M_clocks q_M_counts q_M_talking q_M_heap u_M_images u_M_kept u_M_text u_M_size u_M_sign u_M_manyAbove u_M_manyBelow u_M_above u_M_below u_M_at u_M_begin u_M_kind u_M_value u_M_read u_M_most u_M_hasA u_M_hasB u_M_talks u_M_big v_M_acts v_M_waits v_M_place a_M_refused a_M_held a_M_now a_M_wait a_M_act a_M_clocks a_M_counts a_M_talking a_M_heap) (ws_X11_clock cI cJ cZ cA q_M q_M_refused q_M_held q_M_now q_M_wait q_M_act q_M_clocks q_M_counts q_M_talking q_M_heap u_M_images u_M_kept u_M_text u_M_size u_M_sign u_M_manyAbove u_M_manyBelow u_M_above u_M_below u_M_at u_M_begin u_M_kind u_M_value u_M_read u_M_most u_M_hasA u_M_hasB u_M_talks u_M_big o.2.1 o.2.2.1 o.2.2.2.1 o.2.2.2.2.1 o.2.2.2.2.2.1 a_M_now o.2.2.2.2.2.2.1 o.2.2.2.2.2.2.2.1 o.2.2.2.2.2.2.2.2.1 o.2.2.2.2.2.2.2.2.2.1 o.2.2.2.2.2.2.2.2.2.2.1 o.2.2.2.2.2.2.2.2.2.2.2) (some (.int o.1)) := by
  refine zenterI (own := RX11) (by decide) rfl rfl (Nat.le_of_ble_eq_true rfl) ?_
  intro p e s m args below meth c A ls Q S hA hK hG hl hP hD hS hret0
  have hx := S.1
  have hb := S.2.1
  have ht : ∀ w, w ∈ wsL_law → w.before args s = true := fun w h => S.2.2.2.2 w (List.mem_cons_of_mem _ h)
  have hret : ∀ (r9 : Int32) (v_M_acts : Int32) (v_M_waits : Int32) (v_M_place : Int32) (a_M_refused : Nat → Int32) (a_M_held : Nat → Int32) (a_M_wait : Nat → Int32) (a_M_act : Nat → Int32) (a_M_clocks : Nat → Int32) (a_M_counts : Nat → Int32) (a_M_talking : Nat → Int32) (a_M_heap : Nat → Int64), (some (r9, v_M_acts, v_M_waits, v_M_place, a_M_refused, a_M_held, a_M_wait, a_M_act, a_M_clocks, a_M_counts, a_M_talking, a_M_heap) : Option (Int32 × Int32 × Int32 × Int32 × (Nat → Int32) × (Nat → Int32) × (Nat → Int32) × (Nat → Int32) × (Nat → Int32) × (Nat → Int32) × (Nat → Int32) × (Nat → Int64))) = some o → ∀ (H : Heap) (locs : List Loc) (pc : Nat) (ls : Array Slot), va_P D vwCl (ws_X11_clock cI cJ cZ cA q_M q_M_refused q_M_held q_M_now q_M_wait q_M_act q_M_clocks q_M_counts q_M_talking q_M_heap u_M_images u_M_kept u_M_text u_M_size u_M_sign u_M_manyAbove u_M_manyBelow u_M_above u_M_below u_M_at u_M_begin u_M_kind u_M_value u_M_read u_M_most u_M_hasA u_M_hasB u_M_talks u_M_big v_M_acts v_M_waits v_M_place a_M_refused a_M_held a_M_now a_M_wait a_M_act a_M_clocks a_M_counts a_M_talking a_M_heap) H → va_S A s.heap H locs → decode cX11_clock pc = .ok (.ireturn, 1) → W p l e rm_X11_clock s m args below meth c H locs 0 0 Q (F0 m pc ls [.int r9]) := by
    intro r9 v_M_acts v_M_waits v_M_place a_M_refused a_M_held a_M_wait a_M_act a_M_clocks a_M_counts a_M_talking a_M_heap he; cases he; exact hret0
  have hl : lv_has ls 3 [(0, .ref q_M), (1, .int x1), (2, .int x2)] := hl
  have B22 : ∀ (v_M_acts : Int32) (v_M_waits : Int32) (v_M_place : Int32) (a_M_refused : Nat → Int32) (a_M_held : Nat → Int32) (a_M_wait : Nat → Int32) (a_M_act : Nat → Int32) (a_M_clocks : Nat → Int32) (a_M_counts : Nat → Int32) (a_M_talking : Nat → Int32) (a_M_heap : Nat → Int64) (H : Heap) (locs : List Loc) (ls : Array Slot) (hl : lv_has ls 3 [(0, .ref q_M)]) (hP : va_P D vwCl (ws_X11_clock cI cJ cZ cA q_M q_M_refused q_M_held q_M_now q_M_wait q_M_act q_M_clocks q_M_counts q_M_talking q_M_heap u_M_images u_M_kept u_M_text u_M_size u_M_sign u_M_manyAbove u_M_manyBelow u_M_above u_M_below u_M_at u_M_begin u_M_kind u_M_value u_M_read u_M_most u_M_hasA u_M_hasB u_M_talks u_M_big v_M_acts v_M_waits v_M_place a_M_refused a_M_held a_M_now a_M_wait a_M_act a_M_clocks a_M_counts a_M_talking a_M_heap) H) (hD : va_D A (ws_X11_clock cI cJ cZ cA q_M q_M_refused q_M_held q_M_now q_M_wait q_M_act q_M_clocks q_M_counts q_M_talking q_M_heap u_M_images u_M_kept u_M_text u_M_size u_M_sign u_M_manyAbove u_M_manyBelow u_M_above u_M_below u_M_at u_M_begin u_M_kind u_M_value u_M_read u_M_most u_M_hasA u_M_hasB u_M_talks u_M_big v_M_acts v_M_waits v_M_place a_M_refused a_M_held a_M_now a_M_wait a_M_act a_M_clocks a_M_counts a_M_talking a_M_heap)) (hS : va_S A s.heap H locs), g_X11_clock_22 a_M_now x1 x2 v_M_acts v_M_waits v_M_place a_M_refused a_M_held a_M_wait a_M_act a_M_clocks a_M_counts a_M_talking a_M_heap = some o → W p l e rm_X11_clock s m args below meth c H locs 0 0 Q (F0 m 22 ls []) := by
    intro  v_M_acts v_M_waits v_M_place a_M_refused a_M_held a_M_wait a_M_act a_M_clocks a_M_counts a_M_talking a_M_heap H locs ls hl hP hD hS hg
    refine lv_aload_n hx hb dX11_clock_22 rfl (lv_at hl 0 rfl) ?_
    refine lv_bipush (v := (-2)) hx hb dX11_clock_23 (by decide) ?_
    obtain ⟨v3, hc4, hg⟩ := zbd hg
    refine zcallV (rest := []) S (c_X11_refuse l D cI cJ cZ cA ga q_M q_M_refused (.ref q_M_now) u_M_images u_M_kept u_M_text u_M_size u_M_sign u_M_manyAbove u_M_manyBelow u_M_above u_M_below u_M_at u_M_begin u_M_kind u_M_value u_M_read (.int v_M_acts) (.ref q_M_act) (.int v_M_waits) (.ref q_M_wait) (.ref q_M_held) (.int v_M_place) (.ref q_M_heap) (.ref q_M_clocks) (.ref q_M_counts) (.ref q_M_talking) u_M_most u_M_hasA u_M_hasB u_M_talks u_M_big a_M_refused (-2) v3 hc4) (zgV zw_223 zw_224 zw_225 zw_5 zw_226) rfl hd_X11_refuse ⟨rfl, rfl⟩ ⟨Nat.le_of_ble_eq_true rfl, Nat.le_of_ble_eq_true rfl⟩ 0 11 rfl rfl rfl hl.1 rfl (Nat.le_of_ble_eq_true rfl) dX11_clock_25 hP hD hS hA hK hG (isC := [0, 1]) rfl rfl rfl (w2 := (ws_X11_clock cI cJ cZ cA q_M q_M_refused q_M_held q_M_now q_M_wait q_M_act q_M_clocks q_M_counts q_M_talking q_M_heap u_M_images u_M_kept u_M_text u_M_size u_M_sign u_M_manyAbove u_M_manyBelow u_M_above u_M_below u_M_at u_M_begin u_M_kind u_M_value u_M_read u_M_most u_M_hasA u_M_hasB u_M_talks u_M_big v_M_acts v_M_waits v_M_place v3.2 a_M_held a_M_now a_M_wait a_M_act a_M_clocks a_M_counts a_M_talking a_M_heap)) rfl (st1 := [.int v3.1]) rfl (fun H locs hP hD hS => ?_)
    exact hret v3.1 v_M_acts v_M_waits v_M_place v3.2 a_M_held a_M_wait a_M_act a_M_clocks a_M_counts a_M_talking a_M_heap hg _ _ _ _ hP hS dX11_clock_28
  refine lv_iload_n hx hb dX11_clock_0 rfl (lv_at hl 1 rfl) ?_
  refine lv_i2l hx hb dX11_clock_1 rfl ?_
  refine lv_lconst (v := 0) hx hb dX11_clock_2 (by decide) ?_
  refine lv_lconst (v := 1) hx hb dX11_clock_3 (by decide) ?_
  obtain ⟨v1, hc2, hg⟩ := zbd hg
  refine zcallS (rest := []) S (c_X11_in l D cI cJ cZ cA ga x1.toInt64 (0 : Int64) (1 : Int64) v1 hc2) (zgS zw_220 zw_221 zw_5 zw_222) rfl hd_X11_in ⟨rfl, rfl⟩ ⟨Nat.le_of_ble_eq_true rfl, Nat.le_of_ble_eq_true rfl⟩ rfl hl.1 rfl (Nat.le_of_ble_eq_true rfl) dX11_clock_4 hP hD hS hA hK hG (isC := []) rfl rfl rfl (w2 := (ws_X11_clock cI cJ cZ cA q_M q_M_refused q_M_held q_M_now q_M_wait q_M_act q_M_clocks q_M_counts q_M_talking q_M_heap u_M_images u_M_kept u_M_text u_M_size u_M_sign u_M_manyAbove u_M_manyBelow u_M_above u_M_below u_M_at u_M_begin u_M_kind u_M_value u_M_read u_M_most u_M_hasA u_M_hasB u_M_talks u_M_big v_M_acts v_M_waits v_M_place a_M_refused a_M_held a_M_now a_M_wait a_M_act a_M_clocks a_M_counts a_M_talking a_M_heap)) rfl (st1 := [.int v1]) rfl (fun H locs hP hD hS => ?_)
  refine lv_if_eq (tgt := 22) hx hb dX11_clock_7 (by decide) (fun h7 => ?_) (fun h7 => ?_)
  · have hg := zp hg h7
    exact B22 v_M_acts v_M_waits v_M_place a_M_refused a_M_held a_M_wait a_M_act a_M_clocks a_M_counts a_M_talking a_M_heap _ _ _ (lv_sub hl [0] rfl) hP hD hS hg
  · have hg := zn hg h7
    refine lv_iload_n hx hb dX11_clock_10 rfl (lv_at hl 2 rfl) ?_
    refine lv_i2l hx hb dX11_clock_11 rfl ?_
    refine lv_lconst (v := 0) hx hb dX11_clock_12 (by decide) ?_
    refine lv_ldc2 (v := 240) hx hb S.2.2.2.1 (ht _ zw_219) dX11_clock_13 ?_
    obtain ⟨v5, hc6, hg⟩ := zbd hg
    refine zcallS (rest := []) S (c_X11_in l D cI cJ cZ cA ga x2.toInt64 (0 : Int64) (240 : Int64) v5 hc6) (zgS zw_220 zw_221 zw_5 zw_222) rfl hd_X11_in ⟨rfl, rfl⟩ ⟨Nat.le_of_ble_eq_true rfl, Nat.le_of_ble_eq_true rfl⟩ rfl hl.1 rfl (Nat.le_of_ble_eq_true rfl) dX11_clock_16 hP hD hS hA hK hG (isC := []) rfl rfl rfl (w2 := (ws_X11_clock cI cJ cZ cA q_M q_M_refused q_M_held q_M_now q_M_wait q_M_act q_M_clocks q_M_counts q_M_talking q_M_heap u_M_images u_M_kept u_M_text u_M_size u_M_sign u_M_manyAbove u_M_manyBelow u_M_above u_M_below u_M_at u_M_begin u_M_kind u_M_value u_M_read u_M_most u_M_hasA u_M_hasB u_M_talks u_M_big v_M_acts v_M_waits v_M_place a_M_refused a_M_held a_M_now a_M_wait a_M_act a_M_clocks a_M_counts a_M_talking a_M_heap)) rfl (st1 := [.int v5]) rfl (fun H locs hP hD hS => ?_)
    refine lv_if_ne (tgt := 29) hx hb dX11_clock_19 (by decide) (fun h19 => ?_) (fun h19 => ?_)
    · have hg := zn hg h19
      refine lv_aload_n hx hb dX11_clock_29 rfl (lv_at hl 0 rfl) ?_
      refine lv_bipush (v := 31) hx hb dX11_clock_30 (by decide) ?_
      obtain ⟨v7, hc8, hg⟩ := zbd hg
      refine zcallV (rest := []) S (c_X11_winds l D cI cJ cZ cA ga q_M q_M_held q_M_now q_M_wait q_M_act q_M_clocks q_M_counts q_M_talking q_M_heap u_M_images u_M_kept u_M_text u_M_size u_M_sign u_M_manyAbove u_M_manyBelow u_M_above u_M_below (.ref q_M_refused) u_M_at u_M_begin u_M_kind u_M_value u_M_read u_M_most u_M_hasA u_M_hasB u_M_talks u_M_big v_M_acts v_M_waits v_M_place a_M_held a_M_now a_M_wait a_M_act a_M_clocks a_M_counts a_M_talking a_M_heap 31 v7 hc8) (zgV zw_678 zw_679 zw_680 zw_5 zw_681) rfl hd_X11_winds ⟨rfl, rfl⟩ ⟨Nat.le_of_ble_eq_true rfl, Nat.le_of_ble_eq_true rfl⟩ 0 11 rfl rfl rfl hl.1 rfl (Nat.le_of_ble_eq_true rfl) dX11_clock_32 hP hD hS hA hK hG (isC := [0, 2, 3, 4, 5, 6, 7, 8, 9]) rfl rfl rfl (w2 := (ws_X11_clock cI cJ cZ cA q_M q_M_refused q_M_held q_M_now q_M_wait q_M_act q_M_clocks q_M_counts q_M_talking q_M_heap u_M_images u_M_kept u_M_text u_M_size u_M_sign u_M_manyAbove u_M_manyBelow u_M_above u_M_below u_M_at u_M_begin u_M_kind u_M_value u_M_read u_M_most u_M_hasA u_M_hasB u_M_talks u_M_big v7.1 v7.2.1 v7.2.2.1 a_M_refused v7.2.2.2.1 a_M_now v7.2.2.2.2.1 v7.2.2.2.2.2.1 v7.2.2.2.2.2.2.1 v7.2.2.2.2.2.2.2.1 v7.2.2.2.2.2.2.2.2.1 v7.2.2.2.2.2.2.2.2.2)) rfl (st1 := []) rfl (fun H locs hP hD hS => ?_)
      refine lv_aload_n hx hb dX11_clock_35 rfl (lv_at hl 0 rfl) ?_
      refine zget (C := RX11) (T := TX11) (N := 31) S hK hP 0 rfl rfl 23 (Nat.le_of_ble_eq_true rfl) zf_11 zw_162 rfl dX11_clock_36 ?_
      refine lv_sipush (v := 241) hx hb dX11_clock_39 (by decide) ?_
      refine lv_iload_n hx hb dX11_clock_42 rfl (lv_at hl 1 rfl) ?_
      refine lv_imul hx hb dX11_clock_43 ?_
      refine lv_iload_n hx hb dX11_clock_44 rfl (lv_at hl 2 rfl) ?_
      refine lv_iadd hx hb dX11_clock_45 ?_
      obtain ⟨h9, hg⟩ := zck hg
      refine ziald hx hb hK hP 6 0 rfl rfl (j := (((241 * x1) + x2).toNatClampNeg)) h9 rfl dX11_clock_46 ?_
      exact hret (v7.2.2.2.2.2.2.1 (((241 * x1) + x2).toNatClampNeg)) v7.1 v7.2.1 v7.2.2.1 a_M_refused v7.2.2.2.1 v7.2.2.2.2.1 v7.2.2.2.2.2.1 v7.2.2.2.2.2.2.1 v7.2.2.2.2.2.2.2.1 v7.2.2.2.2.2.2.2.2.1 v7.2.2.2.2.2.2.2.2.2 hg _ _ _ _ hP hS dX11_clock_47
    · have hg := zp hg h19
      exact B22 v_M_acts v_M_waits v_M_place a_M_refused a_M_held a_M_wait a_M_act a_M_clocks a_M_counts a_M_talking a_M_heap _ _ _ (lv_sub hl [0] rfl) hP hD hS hg

/-! SpokenClockModel.counts(II)I -/
abbrev ws_X11_counts (cI cJ cZ cA : ClassId) (q_M q_M_now q_M_refused q_M_held q_M_wait q_M_act q_M_clocks q_M_counts q_M_talking q_M_heap : Nat) (u_M_images : Value) (u_M_kept : Value) (u_M_text : Value) (u_M_size : Value) (u_M_sign : Value) (u_M_manyAbove : Value) (u_M_manyBelow : Value) (u_M_above : Value) (u_M_below : Value) (u_M_at : Value) (u_M_begin : Value) (u_M_kind : Value) (u_M_value : Value) (u_M_read : Value) (u_M_most : Value) (u_M_hasA : Value) (u_M_hasB : Value) (u_M_talks : Value) (u_M_big : Value) (v_M_acts : Int32) (v_M_waits : Int32) (v_M_place : Int32) (a_M_now : Nat → Int32) (a_M_refused : Nat → Int32) (a_M_held : Nat → Int32) (a_M_wait : Nat → Int32) (a_M_act : Nat → Int32) (a_M_clocks : Nat → Int32) (a_M_counts : Nat → Int32) (a_M_talking : Nat → Int32) (a_M_heap : Nat → Int64) : va_W := [(q_M, .inr (11, [.ref q_M_now, u_M_images, u_M_kept, u_M_text, u_M_size, u_M_sign, u_M_manyAbove, u_M_manyBelow, u_M_above, u_M_below, .ref q_M_refused, u_M_at, u_M_begin, u_M_kind, u_M_value, u_M_read, .int v_M_acts, .ref q_M_act, .int v_M_waits, .ref q_M_wait, .ref q_M_held, .int v_M_place, .ref q_M_heap, .ref q_M_clocks, .ref q_M_counts, .ref q_M_talking, u_M_most, u_M_hasA, u_M_hasB, u_M_talks, u_M_big])), (q_M_now, .inl (cI, 155, .inl a_M_now)), (q_M_refused, .inl (cI, 3, .inl a_M_refused)), (q_M_held, .inl (cZ, 9, .inl a_M_held)), (q_M_wait, .inl (cI, 80, .inl a_M_wait)), (q_M_act, .inl (cI, 80, .inl a_M_act)), (q_M_clocks, .inl (cI, 482, .inl a_M_clocks)), (q_M_counts, .inl (cI, 1200, .inl a_M_counts)), (q_M_talking, .inl (cZ, 1200, .inl a_M_talking)), (q_M_heap, .inl (cJ, 41, .inr (.inl a_M_heap)))]
abbrev rm_X11_counts : Room := { frames := 5, cells := 0, slots := 0, locals := 120 }
def g_X11_counts_30 (a_M_now : Nat → Int32) (x1 : Int32) (x2 : Int32) (v_M_acts : Int32) (v_M_waits : Int32) (v_M_place : Int32) (a_M_refused : Nat → Int32) (a_M_held : Nat → Int32) (a_M_wait : Nat → Int32) (a_M_act : Nat → Int32) (a_M_clocks : Nat → Int32) (a_M_counts : Nat → Int32) (a_M_talking : Nat → Int32) (a_M_heap : Nat → Int64) : Option (Int32 × Int32 × Int32 × Int32 × (Nat → Int32) × (Nat → Int32) × (Nat → Int32) × (Nat → Int32) × (Nat → Int32) × (Nat → Int32) × (Nat → Int32) × (Nat → Int64)) :=
  (g_X11_refuse (-2) a_M_refused).bind fun v3 =>
  some (v3.1, v_M_acts, v_M_waits, v_M_place, v3.2, a_M_held, a_M_wait, a_M_act, a_M_clocks, a_M_counts, a_M_talking, a_M_heap)
def g_X11_counts (a_M_now : Nat → Int32) (x1 : Int32) (x2 : Int32) (v_M_acts : Int32) (v_M_waits : Int32) (v_M_place : Int32) (a_M_refused : Nat → Int32) (a_M_held : Nat → Int32) (a_M_wait : Nat → Int32) (a_M_act : Nat → Int32) (a_M_clocks : Nat → Int32) (a_M_counts : Nat → Int32) (a_M_talking : Nat → Int32) (a_M_heap : Nat → Int64) : Option (Int32 × Int32 × Int32 × Int32 × (Nat → Int32) × (Nat → Int32) × (Nat → Int32) × (Nat → Int32) × (Nat → Int32) × (Nat → Int32) × (Nat → Int32) × (Nat → Int64)) :=
  (g_X11_in x1.toInt64 (0 : Int64) (((a_M_now 3) - 1).toInt64)).bind fun v1 =>
  if v1 = 0 then (
    g_X11_counts_30 a_M_now x1 x2 v_M_acts v_M_waits v_M_place a_M_refused a_M_held a_M_wait a_M_act a_M_clocks a_M_counts a_M_talking a_M_heap
  ) else (
    (g_X11_in x2.toInt64 (0 : Int64) (239 : Int64)).bind fun v5 =>
    if v5 = 0 then (
      g_X11_counts_30 a_M_now x1 x2 v_M_acts v_M_waits v_M_place a_M_refused a_M_held a_M_wait a_M_act a_M_clocks a_M_counts a_M_talking a_M_heap
    ) else (
      (g_X11_winds a_M_now 31 v_M_acts v_M_waits v_M_place a_M_held a_M_wait a_M_act a_M_clocks a_M_counts a_M_talking a_M_heap).bind fun v7 =>
      if ((240 * x1) + x2) < 0 ∨ 1200 ≤ ((240 * x1) + x2).toNatClampNeg then none else
      some (v7.2.2.2.2.2.2.2.1 (((240 * x1) + x2).toNatClampNeg), v7.1, v7.2.1, v7.2.2.1, a_M_refused, v7.2.2.2.1, v7.2.2.2.2.1, v7.2.2.2.2.2.1, v7.2.2.2.2.2.2.1, v7.2.2.2.2.2.2.2.1, v7.2.2.2.2.2.2.2.2.1, v7.2.2.2.2.2.2.2.2.2)
    )
  )
theorem hd_X11_counts : yX11_counts.cls = RX11 ∧ yX11_counts.cls ≠ "java/lang/invoke/MethodHandle" ∧ yX11_counts.cls ≠ "java/lang/invoke/VarHandle" ∧ (parseMethodDescriptor yX11_counts.desc).map (fun d => d.parameters.length) = some 2 := by decide +kernel
set_option maxHeartbeats 4000000 in
set_option maxRecDepth 100000 in
theorem c_X11_counts (l : Launch) (D : va_G) (cI cJ cZ cA : ClassId) (ga : Nat → Nat) (q_M q_M_now q_M_refused q_M_held q_M_wait q_M_act q_M_clocks q_M_counts q_M_talking q_M_heap : Nat) (u_M_images : Value) (u_M_kept : Value) (u_M_text : Value) (u_M_size : Value) (u_M_sign : Value) (u_M_manyAbove : Value) (u_M_manyBelow : Value) (u_M_above : Value) (u_M_below : Value) (u_M_at : Value) (u_M_begin : Value) (u_M_kind : Value) (u_M_value : Value) (u_M_read : Value) (u_M_most : Value) (u_M_hasA : Value) (u_M_hasB : Value) (u_M_talks : Value) (u_M_big : Value) (v_M_acts : Int32) (v_M_waits : Int32) (v_M_place : Int32) (a_M_now : Nat → Int32) (a_M_refused : Nat → Int32) (a_M_held : Nat → Int32) (a_M_wait : Nat → Int32) (a_M_act : Nat → Int32) (a_M_clocks : Nat → Int32) (a_M_counts : Nat → Int32) (a_M_talking : Nat → Int32) (a_M_heap : Nat → Int64) (x1 : Int32) (x2 : Int32) (o : Int32 × Int32 × Int32 × Int32 × (Nat → Int32) × (Nat → Int32) × (Nat → Int32) × (Nat → Int32) × (Nat → Int32) × (Nat → Int32) × (Nat → Int32) × (Nat → Int64)) (hg : g_X11_counts a_M_now x1 x2 v_M_acts v_M_waits v_M_place a_M_refused a_M_held a_M_wait a_M_act a_M_clocks a_M_counts a_M_talking a_M_heap = some o) : zM l yX11_counts (Cond.code yX11_counts cX11_counts 3 (some .int) :: wsL_law) rm_X11_counts D (zTy cI cJ cZ cA) ga [.ref q_M, .int x1, .int x2] (ws_X11_counts cI cJ cZ cA q_M q_M_now q_M_refused q_M_held q_M_wait q_M_act q_M_clocks q_M_counts q_M_talking q_M_heap u_M_images u_M_kept u_M_text u_M_size u_M_sign u_M_manyAbove u_M_manyBelow u_M_above u_M_below u_M_at u_M_begin u_M_kind u_M_value u_M_read u_M_most u_M_hasA u_M_hasB u_M_talks u_M_big v_M_acts v_M_waits v_M_place a_M_now a_M_refused a_M_held a_M_wait a_M_act a_M_clocks a_M_counts a_M_talking a_M_heap) (ws_X11_counts cI cJ cZ cA q_M q_M_now q_M_refused q_M_held q_M_wait q_M_act q_M_clocks q_M_counts q_M_talking q_M_heap u_M_images u_M_kept u_M_text u_M_size u_M_sign u_M_manyAbove u_M_manyBelow u_M_above u_M_below u_M_at u_M_begin u_M_kind u_M_value u_M_read u_M_most u_M_hasA u_M_hasB u_M_talks u_M_big o.2.1 o.2.2.1 o.2.2.2.1 a_M_now o.2.2.2.2.1 o.2.2.2.2.2.1 o.2.2.2.2.2.2.1 o.2.2.2.2.2.2.2.1 o.2.2.2.2.2.2.2.2.1 o.2.2.2.2.2.2.2.2.2.1 o.2.2.2.2.2.2.2.2.2.2.1 o.2.2.2.2.2.2.2.2.2.2.2) (some (.int o.1)) := by
  refine zenterI (own := RX11) (by decide) rfl rfl (Nat.le_of_ble_eq_true rfl) ?_
  intro p e s m args below meth c A ls Q S hA hK hG hl hP hD hS hret0
  have hx := S.1
  have hb := S.2.1
  have ht : ∀ w, w ∈ wsL_law → w.before args s = true := fun w h => S.2.2.2.2 w (List.mem_cons_of_mem _ h)
  have hret : ∀ (r9 : Int32) (v_M_acts : Int32) (v_M_waits : Int32) (v_M_place : Int32) (a_M_refused : Nat → Int32) (a_M_held : Nat → Int32) (a_M_wait : Nat → Int32) (a_M_act : Nat → Int32) (a_M_clocks : Nat → Int32) (a_M_counts : Nat → Int32) (a_M_talking : Nat → Int32) (a_M_heap : Nat → Int64), (some (r9, v_M_acts, v_M_waits, v_M_place, a_M_refused, a_M_held, a_M_wait, a_M_act, a_M_clocks, a_M_counts, a_M_talking, a_M_heap) : Option (Int32 × Int32 × Int32 × Int32 × (Nat → Int32) × (Nat → Int32) × (Nat → Int32) × (Nat → Int32) × (Nat → Int32) × (Nat → Int32) × (Nat → Int32) × (Nat → Int64))) = some o → ∀ (H : Heap) (locs : List Loc) (pc : Nat) (ls : Array Slot), va_P D vwCl (ws_X11_counts cI cJ cZ cA q_M q_M_now q_M_refused q_M_held q_M_wait q_M_act q_M_clocks q_M_counts q_M_talking q_M_heap u_M_images u_M_kept u_M_text u_M_size u_M_sign u_M_manyAbove u_M_manyBelow u_M_above u_M_below u_M_at u_M_begin u_M_kind u_M_value u_M_read u_M_most u_M_hasA u_M_hasB u_M_talks u_M_big v_M_acts v_M_waits v_M_place a_M_now a_M_refused a_M_held a_M_wait a_M_act a_M_clocks a_M_counts a_M_talking a_M_heap) H → va_S A s.heap H locs → decode cX11_counts pc = .ok (.ireturn, 1) → W p l e rm_X11_counts s m args below meth c H locs 0 0 Q (F0 m pc ls [.int r9]) := by
    intro r9 v_M_acts v_M_waits v_M_place a_M_refused a_M_held a_M_wait a_M_act a_M_clocks a_M_counts a_M_talking a_M_heap he; cases he; exact hret0
  have hl : lv_has ls 3 [(0, .ref q_M), (1, .int x1), (2, .int x2)] := hl
  have B30 : ∀ (v_M_acts : Int32) (v_M_waits : Int32) (v_M_place : Int32) (a_M_refused : Nat → Int32) (a_M_held : Nat → Int32) (a_M_wait : Nat → Int32) (a_M_act : Nat → Int32) (a_M_clocks : Nat → Int32) (a_M_counts : Nat → Int32) (a_M_talking : Nat → Int32) (a_M_heap : Nat → Int64) (H : Heap) (locs : List Loc) (ls : Array Slot) (hl : lv_has ls 3 [(0, .ref q_M)]) (hP : va_P D vwCl (ws_X11_counts cI cJ cZ cA q_M q_M_now q_M_refused q_M_held q_M_wait q_M_act q_M_clocks q_M_counts q_M_talking q_M_heap u_M_images u_M_kept u_M_text u_M_size u_M_sign u_M_manyAbove u_M_manyBelow u_M_above u_M_below u_M_at u_M_begin u_M_kind u_M_value u_M_read u_M_most u_M_hasA u_M_hasB u_M_talks u_M_big v_M_acts v_M_waits v_M_place a_M_now a_M_refused a_M_held a_M_wait a_M_act a_M_clocks a_M_counts a_M_talking a_M_heap) H) (hD : va_D A (ws_X11_counts cI cJ cZ cA q_M q_M_now q_M_refused q_M_held q_M_wait q_M_act q_M_clocks q_M_counts q_M_talking q_M_heap u_M_images u_M_kept u_M_text u_M_size u_M_sign u_M_manyAbove u_M_manyBelow u_M_above u_M_below u_M_at u_M_begin u_M_kind u_M_value u_M_read u_M_most u_M_hasA u_M_hasB u_M_talks u_M_big v_M_acts v_M_waits v_M_place a_M_now a_M_refused a_M_held a_M_wait a_M_act a_M_clocks a_M_counts a_M_talking a_M_heap)) (hS : va_S A s.heap H locs), g_X11_counts_30 a_M_now x1 x2 v_M_acts v_M_waits v_M_place a_M_refused a_M_held a_M_wait a_M_act a_M_clocks a_M_counts a_M_talking a_M_heap = some o → W p l e rm_X11_counts s m args below meth c H locs 0 0 Q (F0 m 30 ls []) := by
    intro  v_M_acts v_M_waits v_M_place a_M_refused a_M_held a_M_wait a_M_act a_M_clocks a_M_counts a_M_talking a_M_heap H locs ls hl hP hD hS hg
    refine lv_aload_n hx hb dX11_counts_30 rfl (lv_at hl 0 rfl) ?_
    refine lv_bipush (v := (-2)) hx hb dX11_counts_31 (by decide) ?_
    obtain ⟨v3, hc4, hg⟩ := zbd hg
    refine zcallV (rest := []) S (c_X11_refuse l D cI cJ cZ cA ga q_M q_M_refused (.ref q_M_now) u_M_images u_M_kept u_M_text u_M_size u_M_sign u_M_manyAbove u_M_manyBelow u_M_above u_M_below u_M_at u_M_begin u_M_kind u_M_value u_M_read (.int v_M_acts) (.ref q_M_act) (.int v_M_waits) (.ref q_M_wait) (.ref q_M_held) (.int v_M_place) (.ref q_M_heap) (.ref q_M_clocks) (.ref q_M_counts) (.ref q_M_talking) u_M_most u_M_hasA u_M_hasB u_M_talks u_M_big a_M_refused (-2) v3 hc4) (zgV zw_223 zw_224 zw_225 zw_5 zw_226) rfl hd_X11_refuse ⟨rfl, rfl⟩ ⟨Nat.le_of_ble_eq_true rfl, Nat.le_of_ble_eq_true rfl⟩ 0 11 rfl rfl rfl hl.1 rfl (Nat.le_of_ble_eq_true rfl) dX11_counts_33 hP hD hS hA hK hG (isC := [0, 2]) rfl rfl rfl (w2 := (ws_X11_counts cI cJ cZ cA q_M q_M_now q_M_refused q_M_held q_M_wait q_M_act q_M_clocks q_M_counts q_M_talking q_M_heap u_M_images u_M_kept u_M_text u_M_size u_M_sign u_M_manyAbove u_M_manyBelow u_M_above u_M_below u_M_at u_M_begin u_M_kind u_M_value u_M_read u_M_most u_M_hasA u_M_hasB u_M_talks u_M_big v_M_acts v_M_waits v_M_place a_M_now v3.2 a_M_held a_M_wait a_M_act a_M_clocks a_M_counts a_M_talking a_M_heap)) rfl (st1 := [.int v3.1]) rfl (fun H locs hP hD hS => ?_)
    exact hret v3.1 v_M_acts v_M_waits v_M_place v3.2 a_M_held a_M_wait a_M_act a_M_clocks a_M_counts a_M_talking a_M_heap hg _ _ _ _ hP hS dX11_counts_36
  refine lv_iload_n hx hb dX11_counts_0 rfl (lv_at hl 1 rfl) ?_
  refine lv_i2l hx hb dX11_counts_1 rfl ?_
  refine lv_lconst (v := 0) hx hb dX11_counts_2 (by decide) ?_
  refine lv_aload_n hx hb dX11_counts_3 rfl (lv_at hl 0 rfl) ?_
  refine zget (C := RX11) (T := TX11) (N := 31) S hK hP 0 rfl rfl 0 (Nat.le_of_ble_eq_true rfl) zf_11 zw_149 rfl dX11_counts_4 ?_
  refine lv_iconst (v := 3) hx hb dX11_counts_7 (by decide) ?_
  refine ziald hx hb hK hP 1 0 rfl rfl (j := 3) (zin (by decide)) (by decide) dX11_counts_8 ?_
  refine lv_iconst (v := 1) hx hb dX11_counts_9 (by decide) ?_
  refine lv_isub hx hb dX11_counts_10 ?_
  refine lv_i2l hx hb dX11_counts_11 rfl ?_
  obtain ⟨v1, hc2, hg⟩ := zbd hg
  refine zcallS (rest := []) S (c_X11_in l D cI cJ cZ cA ga x1.toInt64 (0 : Int64) (((a_M_now 3) - 1).toInt64) v1 hc2) (zgS zw_220 zw_221 zw_5 zw_222) rfl hd_X11_in ⟨rfl, rfl⟩ ⟨Nat.le_of_ble_eq_true rfl, Nat.le_of_ble_eq_true rfl⟩ rfl hl.1 rfl (Nat.le_of_ble_eq_true rfl) dX11_counts_12 hP hD hS hA hK hG (isC := []) rfl rfl rfl (w2 := (ws_X11_counts cI cJ cZ cA q_M q_M_now q_M_refused q_M_held q_M_wait q_M_act q_M_clocks q_M_counts q_M_talking q_M_heap u_M_images u_M_kept u_M_text u_M_size u_M_sign u_M_manyAbove u_M_manyBelow u_M_above u_M_below u_M_at u_M_begin u_M_kind u_M_value u_M_read u_M_most u_M_hasA u_M_hasB u_M_talks u_M_big v_M_acts v_M_waits v_M_place a_M_now a_M_refused a_M_held a_M_wait a_M_act a_M_clocks a_M_counts a_M_talking a_M_heap)) rfl (st1 := [.int v1]) rfl (fun H locs hP hD hS => ?_)
  refine lv_if_eq (tgt := 30) hx hb dX11_counts_15 (by decide) (fun h15 => ?_) (fun h15 => ?_)
  · have hg := zp hg h15
    exact B30 v_M_acts v_M_waits v_M_place a_M_refused a_M_held a_M_wait a_M_act a_M_clocks a_M_counts a_M_talking a_M_heap _ _ _ (lv_sub hl [0] rfl) hP hD hS hg
  · have hg := zn hg h15
    refine lv_iload_n hx hb dX11_counts_18 rfl (lv_at hl 2 rfl) ?_
    refine lv_i2l hx hb dX11_counts_19 rfl ?_
    refine lv_lconst (v := 0) hx hb dX11_counts_20 (by decide) ?_
    refine lv_ldc2 (v := 239) hx hb S.2.2.2.1 (ht _ zw_707) dX11_counts_21 ?_
    obtain ⟨v5, hc6, hg⟩ := zbd hg
    refine zcallS (rest := []) S (c_X11_in l D cI cJ cZ cA ga x2.toInt64 (0 : Int64) (239 : Int64) v5 hc6) (zgS zw_220 zw_221 zw_5 zw_222) rfl hd_X11_in ⟨rfl, rfl⟩ ⟨Nat.le_of_ble_eq_true rfl, Nat.le_of_ble_eq_true rfl⟩ rfl hl.1 rfl (Nat.le_of_ble_eq_true rfl) dX11_counts_24 hP hD hS hA hK hG (isC := []) rfl rfl rfl (w2 := (ws_X11_counts cI cJ cZ cA q_M q_M_now q_M_refused q_M_held q_M_wait q_M_act q_M_clocks q_M_counts q_M_talking q_M_heap u_M_images u_M_kept u_M_text u_M_size u_M_sign u_M_manyAbove u_M_manyBelow u_M_above u_M_below u_M_at u_M_begin u_M_kind u_M_value u_M_read u_M_most u_M_hasA u_M_hasB u_M_talks u_M_big v_M_acts v_M_waits v_M_place a_M_now a_M_refused a_M_held a_M_wait a_M_act a_M_clocks a_M_counts a_M_talking a_M_heap)) rfl (st1 := [.int v5]) rfl (fun H locs hP hD hS => ?_)
    refine lv_if_ne (tgt := 37) hx hb dX11_counts_27 (by decide) (fun h27 => ?_) (fun h27 => ?_)
    · have hg := zn hg h27
      refine lv_aload_n hx hb dX11_counts_37 rfl (lv_at hl 0 rfl) ?_
      refine lv_bipush (v := 31) hx hb dX11_counts_38 (by decide) ?_
      obtain ⟨v7, hc8, hg⟩ := zbd hg
      refine zcallV (rest := []) S (c_X11_winds l D cI cJ cZ cA ga q_M q_M_held q_M_now q_M_wait q_M_act q_M_clocks q_M_counts q_M_talking q_M_heap u_M_images u_M_kept u_M_text u_M_size u_M_sign u_M_manyAbove u_M_manyBelow u_M_above u_M_below (.ref q_M_refused) u_M_at u_M_begin u_M_kind u_M_value u_M_read u_M_most u_M_hasA u_M_hasB u_M_talks u_M_big v_M_acts v_M_waits v_M_place a_M_held a_M_now a_M_wait a_M_act a_M_clocks a_M_counts a_M_talking a_M_heap 31 v7 hc8) (zgV zw_678 zw_679 zw_680 zw_5 zw_681) rfl hd_X11_winds ⟨rfl, rfl⟩ ⟨Nat.le_of_ble_eq_true rfl, Nat.le_of_ble_eq_true rfl⟩ 0 11 rfl rfl rfl hl.1 rfl (Nat.le_of_ble_eq_true rfl) dX11_counts_40 hP hD hS hA hK hG (isC := [0, 3, 1, 4, 5, 6, 7, 8, 9]) rfl rfl rfl (w2 := (ws_X11_counts cI cJ cZ cA q_M q_M_now q_M_refused q_M_held q_M_wait q_M_act q_M_clocks q_M_counts q_M_talking q_M_heap u_M_images u_M_kept u_M_text u_M_size u_M_sign u_M_manyAbove u_M_manyBelow u_M_above u_M_below u_M_at u_M_begin u_M_kind u_M_value u_M_read u_M_most u_M_hasA u_M_hasB u_M_talks u_M_big v7.1 v7.2.1 v7.2.2.1 a_M_now a_M_refused v7.2.2.2.1 v7.2.2.2.2.1 v7.2.2.2.2.2.1 v7.2.2.2.2.2.2.1 v7.2.2.2.2.2.2.2.1 v7.2.2.2.2.2.2.2.2.1 v7.2.2.2.2.2.2.2.2.2)) rfl (st1 := []) rfl (fun H locs hP hD hS => ?_)
      refine lv_aload_n hx hb dX11_counts_43 rfl (lv_at hl 0 rfl) ?_
      refine zget (C := RX11) (T := TX11) (N := 31) S hK hP 0 rfl rfl 24 (Nat.le_of_ble_eq_true rfl) zf_11 zw_163 rfl dX11_counts_44 ?_
      refine lv_sipush (v := 240) hx hb dX11_counts_47 (by decide) ?_
      refine lv_iload_n hx hb dX11_counts_50 rfl (lv_at hl 1 rfl) ?_
      refine lv_imul hx hb dX11_counts_51 ?_
      refine lv_iload_n hx hb dX11_counts_52 rfl (lv_at hl 2 rfl) ?_
      refine lv_iadd hx hb dX11_counts_53 ?_
      obtain ⟨h9, hg⟩ := zck hg
      refine ziald hx hb hK hP 7 0 rfl rfl (j := (((240 * x1) + x2).toNatClampNeg)) h9 rfl dX11_counts_54 ?_
      exact hret (v7.2.2.2.2.2.2.2.1 (((240 * x1) + x2).toNatClampNeg)) v7.1 v7.2.1 v7.2.2.1 a_M_refused v7.2.2.2.1 v7.2.2.2.2.1 v7.2.2.2.2.2.1 v7.2.2.2.2.2.2.1 v7.2.2.2.2.2.2.2.1 v7.2.2.2.2.2.2.2.2.1 v7.2.2.2.2.2.2.2.2.2 hg _ _ _ _ hP hS dX11_counts_55
    · have hg := zp hg h27
      exact B30 v_M_acts v_M_waits v_M_place a_M_refused a_M_held a_M_wait a_M_act a_M_clocks a_M_counts a_M_talking a_M_heap _ _ _ (lv_sub hl [0] rfl) hP hD hS hg

/-! SpokenClockModel.first(II)I -/
abbrev ws_X11_first (cI cJ cZ cA : ClassId) (q_M q_M_clocks : Nat) (u_M_now : Value) (u_M_images : Value) (u_M_kept : Value) (u_M_text : Value) (u_M_size : Value) (u_M_sign : Value) (u_M_manyAbove : Value) (u_M_manyBelow : Value) (u_M_above : Value) (u_M_below : Value) (u_M_refused : Value) (u_M_at : Value) (u_M_begin : Value) (u_M_kind : Value) (u_M_value : Value) (u_M_read : Value) (u_M_acts : Value) (u_M_act : Value) (u_M_waits : Value) (u_M_wait : Value) (u_M_held : Value) (u_M_place : Value) (u_M_heap : Value) (u_M_counts : Value) (u_M_talking : Value) (u_M_most : Value) (u_M_hasA : Value) (u_M_hasB : Value) (u_M_talks : Value) (u_M_big : Value) (a_M_clocks : Nat → Int32) : va_W := [(q_M, .inr (11, [u_M_now, u_M_images, u_M_kept, u_M_text, u_M_size, u_M_sign, u_M_manyAbove, u_M_manyBelow, u_M_above, u_M_below, u_M_refused, u_M_at, u_M_begin, u_M_kind, u_M_value, u_M_read, u_M_acts, u_M_act, u_M_waits, u_M_wait, u_M_held, u_M_place, u_M_heap, .ref q_M_clocks, u_M_counts, u_M_talking, u_M_most, u_M_hasA, u_M_hasB, u_M_talks, u_M_big])), (q_M_clocks, .inl (cI, 482, .inl a_M_clocks))]
abbrev rm_X11_first : Room := { frames := 0, cells := 0, slots := 0, locals := 0 }
def g_X11_first_2b (a_M_clocks : Nat → Int32) (x1 : Int32) (x2 : Int32) (k2 : Int32 → Option (Int32)) (x3 : Int32) : Option (Int32) :=
  if 240 < x3 then (
    some ((-1))
  ) else (
    if ((241 * x1) + x3) < 0 ∨ 482 ≤ ((241 * x1) + x3).toNatClampNeg then none else
    if (a_M_clocks (((241 * x1) + x3).toNatClampNeg)) < x2 then (
      k2 (x3 + 1)
    ) else (
      some (x3)
    )
  )
def g_X11_first_2 (a_M_clocks : Nat → Int32) (x1 : Int32) (x2 : Int32) : Nat → Int32 → Option (Int32)
  | 0, _ => none
  | n + 1, x3 => g_X11_first_2b a_M_clocks x1 x2 (g_X11_first_2 a_M_clocks x1 x2 n) x3
def g_X11_first (a_M_clocks : Nat → Int32) (x1 : Int32) (x2 : Int32) : Option (Int32) :=
  g_X11_first_2 a_M_clocks x1 x2 zF 0
theorem hd_X11_first : yX11_first.cls = RX11 ∧ yX11_first.cls ≠ "java/lang/invoke/MethodHandle" ∧ yX11_first.cls ≠ "java/lang/invoke/VarHandle" ∧ (parseMethodDescriptor yX11_first.desc).map (fun d => d.parameters.length) = some 2 := by decide +kernel
set_option maxHeartbeats 4000000 in
set_option maxRecDepth 100000 in
theorem c_X11_first (l : Launch) (D : va_G) (cI cJ cZ cA : ClassId) (ga : Nat → Nat) (q_M q_M_clocks : Nat) (u_M_now : Value) (u_M_images : Value) (u_M_kept : Value) (u_M_text : Value) (u_M_size : Value) (u_M_sign : Value) (u_M_manyAbove : Value) (u_M_manyBelow : Value) (u_M_above : Value) (u_M_below : Value) (u_M_refused : Value) (u_M_at : Value) (u_M_begin : Value) (u_M_kind : Value) (u_M_value : Value) (u_M_read : Value) (u_M_acts : Value) (u_M_act : Value) (u_M_waits : Value) (u_M_wait : Value) (u_M_held : Value) (u_M_place : Value) (u_M_heap : Value) (u_M_counts : Value) (u_M_talking : Value) (u_M_most : Value) (u_M_hasA : Value) (u_M_hasB : Value) (u_M_talks : Value) (u_M_big : Value) (a_M_clocks : Nat → Int32) (x1 : Int32) (x2 : Int32) (o : Int32) (hg : g_X11_first a_M_clocks x1 x2 = some o) : zM l yX11_first (Cond.code yX11_first cX11_first 4 (some .int) :: wsL_law) rm_X11_first D (zTy cI cJ cZ cA) ga [.ref q_M, .int x1, .int x2] (ws_X11_first cI cJ cZ cA q_M q_M_clocks u_M_now u_M_images u_M_kept u_M_text u_M_size u_M_sign u_M_manyAbove u_M_manyBelow u_M_above u_M_below u_M_refused u_M_at u_M_begin u_M_kind u_M_value u_M_read u_M_acts u_M_act u_M_waits u_M_wait u_M_held u_M_place u_M_heap u_M_counts u_M_talking u_M_most u_M_hasA u_M_hasB u_M_talks u_M_big a_M_clocks) (ws_X11_first cI cJ cZ cA q_M q_M_clocks u_M_now u_M_images u_M_kept u_M_text u_M_size u_M_sign u_M_manyAbove u_M_manyBelow u_M_above u_M_below u_M_refused u_M_at u_M_begin u_M_kind u_M_value u_M_read u_M_acts u_M_act u_M_waits u_M_wait u_M_held u_M_place u_M_heap u_M_counts u_M_talking u_M_most u_M_hasA u_M_hasB u_M_talks u_M_big a_M_clocks) (some (.int o)) := by
  refine zenterI (own := RX11) (by decide) rfl rfl (Nat.le_of_ble_eq_true rfl) ?_
  intro p e s m args below meth c A ls Q S hA hK hG hl hP hD hS hret0
  have hx := S.1
  have hb := S.2.1
  have ht : ∀ w, w ∈ wsL_law → w.before args s = true := fun w h => S.2.2.2.2 w (List.mem_cons_of_mem _ h)
  have hret : ∀ (r9 : Int32), (some (r9) : Option (Int32)) = some o → ∀ (H : Heap) (locs : List Loc) (pc : Nat) (ls : Array Slot), va_P D vwCl (ws_X11_first cI cJ cZ cA q_M q_M_clocks u_M_now u_M_images u_M_kept u_M_text u_M_size u_M_sign u_M_manyAbove u_M_manyBelow u_M_above u_M_below u_M_refused u_M_at u_M_begin u_M_kind u_M_value u_M_read u_M_acts u_M_act u_M_waits u_M_wait u_M_held u_M_place u_M_heap u_M_counts u_M_talking u_M_most u_M_hasA u_M_hasB u_M_talks u_M_big a_M_clocks) H → va_S A s.heap H locs → decode cX11_first pc = .ok (.ireturn, 1) → W p l e rm_X11_first s m args below meth c H locs 0 0 Q (F0 m pc ls [.int r9]) := by
    intro r9 he; cases he; exact hret0
  have hl : lv_has ls 4 [(0, .ref q_M), (1, .int x1), (2, .int x2)] := hl
  have B2 : ∀  (n : Nat) (x3 : Int32) (H : Heap) (locs : List Loc) (ls : Array Slot) (hl : lv_has ls 4 [(0, .ref q_M), (1, .int x1), (2, .int x2), (3, .int x3)]) (hP : va_P D vwCl (ws_X11_first cI cJ cZ cA q_M q_M_clocks u_M_now u_M_images u_M_kept u_M_text u_M_size u_M_sign u_M_manyAbove u_M_manyBelow u_M_above u_M_below u_M_refused u_M_at u_M_begin u_M_kind u_M_value u_M_read u_M_acts u_M_act u_M_waits u_M_wait u_M_held u_M_place u_M_heap u_M_counts u_M_talking u_M_most u_M_hasA u_M_hasB u_M_talks u_M_big a_M_clocks) H) (hD : va_D A (ws_X11_first cI cJ cZ cA q_M q_M_clocks u_M_now u_M_images u_M_kept u_M_text u_M_size u_M_sign u_M_manyAbove u_M_manyBelow u_M_above u_M_below u_M_refused u_M_at u_M_begin u_M_kind u_M_value u_M_read u_M_acts u_M_act u_M_waits u_M_wait u_M_held u_M_place u_M_heap u_M_counts u_M_talking u_M_most u_M_hasA u_M_hasB u_M_talks u_M_big a_M_clocks)) (hS : va_S A s.heap H locs), g_X11_first_2 a_M_clocks x1 x2 n x3 = some o → W p l e rm_X11_first s m args below meth c H locs 0 0 Q (F0 m 2 ls []) := by
    intro  n
    induction n with
    | zero => intro x3 H locs ls hl hP hD hS hg; exact nomatch (show (none : Option (Int32)) = some o from hg)
    | succ n ih =>
      intro x3 H locs ls hl hP hD hS hg
      have hg : g_X11_first_2b a_M_clocks x1 x2 (g_X11_first_2 a_M_clocks x1 x2 n) x3 = some o := hg
      refine lv_iload_n hx hb dX11_first_2 rfl (lv_at hl 3 rfl) ?_
      refine lv_sipush (v := 240) hx hb dX11_first_3 (by decide) ?_
      refine lv_icmp_gt (tgt := 33) hx hb dX11_first_6 (by decide) (fun h6 => ?_) (fun h6 => ?_)
      · have hg := zp hg h6
        refine lv_iconst (v := (-1)) hx hb dX11_first_33 (by decide) ?_
        exact hret (-1) hg _ _ _ _ hP hS dX11_first_34
      · have hg := zn hg h6
        refine lv_aload_n hx hb dX11_first_9 rfl (lv_at hl 0 rfl) ?_
        refine zget (C := RX11) (T := TX11) (N := 31) S hK hP 0 rfl rfl 23 (Nat.le_of_ble_eq_true rfl) zf_11 zw_162 rfl dX11_first_10 ?_
        refine lv_sipush (v := 241) hx hb dX11_first_13 (by decide) ?_
        refine lv_iload_n hx hb dX11_first_16 rfl (lv_at hl 1 rfl) ?_
        refine lv_imul hx hb dX11_first_17 ?_
        refine lv_iload_n hx hb dX11_first_18 rfl (lv_at hl 3 rfl) ?_
        refine lv_iadd hx hb dX11_first_19 ?_
        obtain ⟨h1, hg⟩ := zck hg
        refine ziald hx hb hK hP 1 0 rfl rfl (j := (((241 * x1) + x3).toNatClampNeg)) h1 rfl dX11_first_20 ?_
        refine lv_iload_n hx hb dX11_first_21 rfl (lv_at hl 2 rfl) ?_
        refine lv_icmp_lt (tgt := 27) hx hb dX11_first_22 (by decide) (fun h22 => ?_) (fun h22 => ?_)
        · have hg := zp hg h22
          refine lv_iinc (k := 3) (v := x3 + 1) (lv' := [(3, .int (x3 + 1)), (0, .ref q_M), (1, .int x1), (2, .int x2)]) hx hb dX11_first_27 hl rfl (zinc (by decide)) (by decide) rfl (fun ls hl => ?_)
          refine lv_goto (tgt := 2) hx hb dX11_first_30 (by decide) ?_
          exact ih (x3 + 1) _ _ _ (lv_sub hl [1, 2, 3, 0] rfl) hP hD hS hg
        · have hg := zn hg h22
          refine lv_iload_n hx hb dX11_first_25 rfl (lv_at hl 3 rfl) ?_
          exact hret x3 hg _ _ _ _ hP hS dX11_first_26
  refine lv_iconst (v := 0) hx hb dX11_first_0 (by decide) ?_
  refine lv_istore_n (lv' := [(3, .int 0), (0, .ref q_M), (1, .int x1), (2, .int x2)]) hx hb dX11_first_1 rfl hl (by decide) rfl (fun ls hl => ?_)
  exact B2 zF 0 _ _ _ (lv_sub hl [1, 2, 3, 0] rfl) hP hD hS hg

/-! SpokenClockModel.sun(II)I -/
abbrev ws_X11_sun (cI cJ cZ cA : ClassId) (q_M q_M_refused q_M_held q_M_now q_M_wait q_M_act q_M_clocks q_M_counts q_M_talking q_M_heap : Nat) (u_M_images : Value) (u_M_kept : Value) (u_M_text : Value) (u_M_size : Value) (u_M_sign : Value) (u_M_manyAbove : Value) (u_M_manyBelow : Value) (u_M_above : Value) (u_M_below : Value) (u_M_at : Value) (u_M_begin : Value) (u_M_kind : Value) (u_M_value : Value) (u_M_read : Value) (u_M_most : Value) (u_M_hasA : Value) (u_M_hasB : Value) (u_M_talks : Value) (u_M_big : Value) (v_M_acts : Int32) (v_M_waits : Int32) (v_M_place : Int32) (a_M_refused : Nat → Int32) (a_M_held : Nat → Int32) (a_M_now : Nat → Int32) (a_M_wait : Nat → Int32) (a_M_act : Nat → Int32) (a_M_clocks : Nat → Int32) (a_M_counts : Nat → Int32) (a_M_talking : Nat → Int32) (a_M_heap : Nat → Int64) : va_W := [(q_M, .inr (11, [.ref q_M_now, u_M_images, u_M_kept, u_M_text, u_M_size, u_M_sign, u_M_manyAbove, u_M_manyBelow, u_M_above, u_M_below, .ref q_M_refused, u_M_at, u_M_begin, u_M_kind, u_M_value, u_M_read, .int v_M_acts, .ref q_M_act, .int v_M_waits, .ref q_M_wait, .ref q_M_held, .int v_M_place, .ref q_M_heap, .ref q_M_clocks, .ref q_M_counts, .ref q_M_talking, u_M_most, u_M_hasA, u_M_hasB, u_M_talks, u_M_big])), (q_M_refused, .inl (cI, 3, .inl a_M_refused)), (q_M_held, .inl (cZ, 9, .inl a_M_held)), (q_M_now, .inl (cI, 155, .inl a_M_now)), (q_M_wait, .inl (cI, 80, .inl a_M_wait)), (q_M_act, .inl (cI, 80, .inl a_M_act)), (q_M_clocks, .inl (cI, 482, .inl a_M_clocks)), (q_M_counts, .inl (cI, 1200, .inl a_M_counts)), (q_M_talking, .inl (cZ, 1200, .inl a_M_talking)), (q_M_heap, .inl (cJ, 41, .inr (.inl a_M_heap)))]
abbrev rm_X11_sun : Room := { frames := 5, cells := 0, slots := 0, locals := 120 }
def g_X11_sun_22 (a_M_now : Nat → Int32) (x1 : Int32) (x2 : Int32) (v_M_acts : Int32) (v_M_waits : Int32) (v_M_place : Int32) (a_M_refused : Nat → Int32) (a_M_held : Nat → Int32) (a_M_wait : Nat → Int32) (a_M_act : Nat → Int32) (a_M_clocks : Nat → Int32) (a_M_counts : Nat → Int32) (a_M_talking : Nat → Int32) (a_M_heap : Nat → Int64) : Option (Int32 × Int32 × Int32 × Int32 × (Nat → Int32) × (Nat → Int32) × (Nat → Int32) × (Nat → Int32) × (Nat → Int32) × (Nat → Int32) × (Nat → Int32) × (Nat → Int64)) :=
  (g_X11_refuse (-2) a_M_refused).bind fun v3 =>
  some (v3.1, v_M_acts, v_M_waits, v_M_place, v3.2, a_M_held, a_M_wait, a_M_act, a_M_clocks, a_M_counts, a_M_talking, a_M_heap)
def g_X11_sun (a_M_now : Nat → Int32) (x1 : Int32) (x2 : Int32) (v_M_acts : Int32) (v_M_waits : Int32) (v_M_place : Int32) (a_M_refused : Nat → Int32) (a_M_held : Nat → Int32) (a_M_wait : Nat → Int32) (a_M_act : Nat → Int32) (a_M_clocks : Nat → Int32) (a_M_counts : Nat → Int32) (a_M_talking : Nat → Int32) (a_M_heap : Nat → Int64) : Option (Int32 × Int32 × Int32 × Int32 × (Nat → Int32) × (Nat → Int32) × (Nat → Int32) × (Nat → Int32) × (Nat → Int32) × (Nat → Int32) × (Nat → Int32) × (Nat → Int64)) :=
  (g_X11_in x1.toInt64 (0 : Int64) (1 : Int64)).bind fun v1 =>
  if v1 = 0 then (
    g_X11_sun_22 a_M_now x1 x2 v_M_acts v_M_waits v_M_place a_M_refused a_M_held a_M_wait a_M_act a_M_clocks a_M_counts a_M_talking a_M_heap
  ) else (
    (g_X11_in x2.toInt64 (0 : Int64) (999 : Int64)).bind fun v5 =>
    if v5 = 0 then (
      g_X11_sun_22 a_M_now x1 x2 v_M_acts v_M_waits v_M_place a_M_refused a_M_held a_M_wait a_M_act a_M_clocks a_M_counts a_M_talking a_M_heap
    ) else (
      (g_X11_winds a_M_now 31 v_M_acts v_M_waits v_M_place a_M_held a_M_wait a_M_act a_M_clocks a_M_counts a_M_talking a_M_heap).bind fun v7 =>
      (g_X11_first v7.2.2.2.2.2.2.1 x1 x2).bind fun v9 =>
      some (v9, v7.1, v7.2.1, v7.2.2.1, a_M_refused, v7.2.2.2.1, v7.2.2.2.2.1, v7.2.2.2.2.2.1, v7.2.2.2.2.2.2.1, v7.2.2.2.2.2.2.2.1, v7.2.2.2.2.2.2.2.2.1, v7.2.2.2.2.2.2.2.2.2)
    )
  )
theorem hd_X11_sun : yX11_sun.cls = RX11 ∧ yX11_sun.cls ≠ "java/lang/invoke/MethodHandle" ∧ yX11_sun.cls ≠ "java/lang/invoke/VarHandle" ∧ (parseMethodDescriptor yX11_sun.desc).map (fun d => d.parameters.length) = some 2 := by decide +kernel
set_option maxHeartbeats 4000000 in
set_option maxRecDepth 100000 in
theorem c_X11_sun (l : Launch) (D : va_G) (cI cJ cZ cA : ClassId) (ga : Nat → Nat) (q_M q_M_refused q_M_held q_M_now q_M_wait q_M_act q_M_clocks q_M_counts q_M_talking q_M_heap : Nat) (u_M_images : Value) (u_M_kept : Value) (u_M_text : Value) (u_M_size : Value) (u_M_sign : Value) (u_M_manyAbove : Value) (u_M_manyBelow : Value) (u_M_above : Value) (u_M_below : Value) (u_M_at : Value) (u_M_begin : Value) (u_M_kind : Value) (u_M_value : Value) (u_M_read : Value) (u_M_most : Value) (u_M_hasA : Value) (u_M_hasB : Value) (u_M_talks : Value) (u_M_big : Value) (v_M_acts : Int32) (v_M_waits : Int32) (v_M_place : Int32) (a_M_refused : Nat → Int32) (a_M_held : Nat → Int32) (a_M_now : Nat → Int32) (a_M_wait : Nat → Int32) (a_M_act : Nat → Int32) (a_M_clocks : Nat → Int32) (a_M_counts : Nat → Int32) (a_M_talking : Nat → Int32) (a_M_heap : Nat → Int64) (x1 : Int32) (x2 : Int32) (o : Int32 × Int32 × Int32 × Int32 × (Nat → Int32) × (Nat → Int32) × (Nat → Int32) × (Nat → Int32) × (Nat → Int32) × (Nat → Int32) × (Nat → Int32) × (Nat → Int64)) (hg : g_X11_sun a_M_now x1 x2 v_M_acts v_M_waits v_M_place a_M_refused a_M_held a_M_wait a_M_act a_M_clocks a_M_counts a_M_talking a_M_heap = some o) : zM l yX11_sun (Cond.code yX11_sun cX11_sun 3 (some .int) :: wsL_law) rm_X11_sun D (zTy cI cJ cZ cA) ga [.ref q_M, .int x1, .int x2] (ws_X11_sun cI cJ cZ cA q_M q_M_refused q_M_held q_M_now q_M_wait q_M_act q_M_clocks q_M_counts q_M_talking q_M_heap u_M_images u_M_kept u_M_text u_M_size u_M_sign u_M_manyAbove u_M_manyBelow u_M_above u_M_below u_M_at u_M_begin u_M_kind u_M_value u_M_read u_M_most u_M_hasA u_M_hasB u_M_talks u_M_big v_M_acts v_M_waits v_M_place a_M_refused a_M_held a_M_now a_M_wait a_M_act a_M_clocks a_M_counts a_M_talking a_M_heap) (ws_X11_sun cI cJ cZ cA q_M q_M_refused q_M_held q_M_now q_M_wait q_M_act q_M_clocks q_M_counts q_M_talking q_M_heap u_M_images u_M_kept u_M_text u_M_size u_M_sign u_M_manyAbove u_M_manyBelow u_M_above u_M_below u_M_at u_M_begin u_M_kind u_M_value u_M_read u_M_most u_M_hasA u_M_hasB u_M_talks u_M_big o.2.1 o.2.2.1 o.2.2.2.1 o.2.2.2.2.1 o.2.2.2.2.2.1 a_M_now o.2.2.2.2.2.2.1 o.2.2.2.2.2.2.2.1 o.2.2.2.2.2.2.2.2.1 o.2.2.2.2.2.2.2.2.2.1 o.2.2.2.2.2.2.2.2.2.2.1 o.2.2.2.2.2.2.2.2.2.2.2) (some (.int o.1)) := by
  refine zenterI (own := RX11) (by decide) rfl rfl (Nat.le_of_ble_eq_true rfl) ?_
  intro p e s m args below meth c A ls Q S hA hK hG hl hP hD hS hret0
  have hx := S.1
  have hb := S.2.1
  have ht : ∀ w, w ∈ wsL_law → w.before args s = true := fun w h => S.2.2.2.2 w (List.mem_cons_of_mem _ h)
  have hret : ∀ (r9 : Int32) (v_M_acts : Int32) (v_M_waits : Int32) (v_M_place : Int32) (a_M_refused : Nat → Int32) (a_M_held : Nat → Int32) (a_M_wait : Nat → Int32) (a_M_act : Nat → Int32) (a_M_clocks : Nat → Int32) (a_M_counts : Nat → Int32) (a_M_talking : Nat → Int32) (a_M_heap : Nat → Int64), (some (r9, v_M_acts, v_M_waits, v_M_place, a_M_refused, a_M_held, a_M_wait, a_M_act, a_M_clocks, a_M_counts, a_M_talking, a_M_heap) : Option (Int32 × Int32 × Int32 × Int32 × (Nat → Int32) × (Nat → Int32) × (Nat → Int32) × (Nat → Int32) × (Nat → Int32) × (Nat → Int32) × (Nat → Int32) × (Nat → Int64))) = some o → ∀ (H : Heap) (locs : List Loc) (pc : Nat) (ls : Array Slot), va_P D vwCl (ws_X11_sun cI cJ cZ cA q_M q_M_refused q_M_held q_M_now q_M_wait q_M_act q_M_clocks q_M_counts q_M_talking q_M_heap u_M_images u_M_kept u_M_text u_M_size u_M_sign u_M_manyAbove u_M_manyBelow u_M_above u_M_below u_M_at u_M_begin u_M_kind u_M_value u_M_read u_M_most u_M_hasA u_M_hasB u_M_talks u_M_big v_M_acts v_M_waits v_M_place a_M_refused a_M_held a_M_now a_M_wait a_M_act a_M_clocks a_M_counts a_M_talking a_M_heap) H → va_S A s.heap H locs → decode cX11_sun pc = .ok (.ireturn, 1) → W p l e rm_X11_sun s m args below meth c H locs 0 0 Q (F0 m pc ls [.int r9]) := by
    intro r9 v_M_acts v_M_waits v_M_place a_M_refused a_M_held a_M_wait a_M_act a_M_clocks a_M_counts a_M_talking a_M_heap he; cases he; exact hret0
  have hl : lv_has ls 3 [(0, .ref q_M), (1, .int x1), (2, .int x2)] := hl
  have B22 : ∀ (v_M_acts : Int32) (v_M_waits : Int32) (v_M_place : Int32) (a_M_refused : Nat → Int32) (a_M_held : Nat → Int32) (a_M_wait : Nat → Int32) (a_M_act : Nat → Int32) (a_M_clocks : Nat → Int32) (a_M_counts : Nat → Int32) (a_M_talking : Nat → Int32) (a_M_heap : Nat → Int64) (H : Heap) (locs : List Loc) (ls : Array Slot) (hl : lv_has ls 3 [(0, .ref q_M)]) (hP : va_P D vwCl (ws_X11_sun cI cJ cZ cA q_M q_M_refused q_M_held q_M_now q_M_wait q_M_act q_M_clocks q_M_counts q_M_talking q_M_heap u_M_images u_M_kept u_M_text u_M_size u_M_sign u_M_manyAbove u_M_manyBelow u_M_above u_M_below u_M_at u_M_begin u_M_kind u_M_value u_M_read u_M_most u_M_hasA u_M_hasB u_M_talks u_M_big v_M_acts v_M_waits v_M_place a_M_refused a_M_held a_M_now a_M_wait a_M_act a_M_clocks a_M_counts a_M_talking a_M_heap) H) (hD : va_D A (ws_X11_sun cI cJ cZ cA q_M q_M_refused q_M_held q_M_now q_M_wait q_M_act q_M_clocks q_M_counts q_M_talking q_M_heap u_M_images u_M_kept u_M_text u_M_size u_M_sign u_M_manyAbove u_M_manyBelow u_M_above u_M_below u_M_at u_M_begin u_M_kind u_M_value u_M_read u_M_most u_M_hasA u_M_hasB u_M_talks u_M_big v_M_acts v_M_waits v_M_place a_M_refused a_M_held a_M_now a_M_wait a_M_act a_M_clocks a_M_counts a_M_talking a_M_heap)) (hS : va_S A s.heap H locs), g_X11_sun_22 a_M_now x1 x2 v_M_acts v_M_waits v_M_place a_M_refused a_M_held a_M_wait a_M_act a_M_clocks a_M_counts a_M_talking a_M_heap = some o → W p l e rm_X11_sun s m args below meth c H locs 0 0 Q (F0 m 22 ls []) := by
    intro  v_M_acts v_M_waits v_M_place a_M_refused a_M_held a_M_wait a_M_act a_M_clocks a_M_counts a_M_talking a_M_heap H locs ls hl hP hD hS hg
    refine lv_aload_n hx hb dX11_sun_22 rfl (lv_at hl 0 rfl) ?_
    refine lv_bipush (v := (-2)) hx hb dX11_sun_23 (by decide) ?_
    obtain ⟨v3, hc4, hg⟩ := zbd hg
    refine zcallV (rest := []) S (c_X11_refuse l D cI cJ cZ cA ga q_M q_M_refused (.ref q_M_now) u_M_images u_M_kept u_M_text u_M_size u_M_sign u_M_manyAbove u_M_manyBelow u_M_above u_M_below u_M_at u_M_begin u_M_kind u_M_value u_M_read (.int v_M_acts) (.ref q_M_act) (.int v_M_waits) (.ref q_M_wait) (.ref q_M_held) (.int v_M_place) (.ref q_M_heap) (.ref q_M_clocks) (.ref q_M_counts) (.ref q_M_talking) u_M_most u_M_hasA u_M_hasB u_M_talks u_M_big a_M_refused (-2) v3 hc4) (zgV zw_223 zw_224 zw_225 zw_5 zw_226) rfl hd_X11_refuse ⟨rfl, rfl⟩ ⟨Nat.le_of_ble_eq_true rfl, Nat.le_of_ble_eq_true rfl⟩ 0 11 rfl rfl rfl hl.1 rfl (Nat.le_of_ble_eq_true rfl) dX11_sun_25 hP hD hS hA hK hG (isC := [0, 1]) rfl rfl rfl (w2 := (ws_X11_sun cI cJ cZ cA q_M q_M_refused q_M_held q_M_now q_M_wait q_M_act q_M_clocks q_M_counts q_M_talking q_M_heap u_M_images u_M_kept u_M_text u_M_size u_M_sign u_M_manyAbove u_M_manyBelow u_M_above u_M_below u_M_at u_M_begin u_M_kind u_M_value u_M_read u_M_most u_M_hasA u_M_hasB u_M_talks u_M_big v_M_acts v_M_waits v_M_place v3.2 a_M_held a_M_now a_M_wait a_M_act a_M_clocks a_M_counts a_M_talking a_M_heap)) rfl (st1 := [.int v3.1]) rfl (fun H locs hP hD hS => ?_)
    exact hret v3.1 v_M_acts v_M_waits v_M_place v3.2 a_M_held a_M_wait a_M_act a_M_clocks a_M_counts a_M_talking a_M_heap hg _ _ _ _ hP hS dX11_sun_28
  refine lv_iload_n hx hb dX11_sun_0 rfl (lv_at hl 1 rfl) ?_
  refine lv_i2l hx hb dX11_sun_1 rfl ?_
  refine lv_lconst (v := 0) hx hb dX11_sun_2 (by decide) ?_
  refine lv_lconst (v := 1) hx hb dX11_sun_3 (by decide) ?_
  obtain ⟨v1, hc2, hg⟩ := zbd hg
  refine zcallS (rest := []) S (c_X11_in l D cI cJ cZ cA ga x1.toInt64 (0 : Int64) (1 : Int64) v1 hc2) (zgS zw_220 zw_221 zw_5 zw_222) rfl hd_X11_in ⟨rfl, rfl⟩ ⟨Nat.le_of_ble_eq_true rfl, Nat.le_of_ble_eq_true rfl⟩ rfl hl.1 rfl (Nat.le_of_ble_eq_true rfl) dX11_sun_4 hP hD hS hA hK hG (isC := []) rfl rfl rfl (w2 := (ws_X11_sun cI cJ cZ cA q_M q_M_refused q_M_held q_M_now q_M_wait q_M_act q_M_clocks q_M_counts q_M_talking q_M_heap u_M_images u_M_kept u_M_text u_M_size u_M_sign u_M_manyAbove u_M_manyBelow u_M_above u_M_below u_M_at u_M_begin u_M_kind u_M_value u_M_read u_M_most u_M_hasA u_M_hasB u_M_talks u_M_big v_M_acts v_M_waits v_M_place a_M_refused a_M_held a_M_now a_M_wait a_M_act a_M_clocks a_M_counts a_M_talking a_M_heap)) rfl (st1 := [.int v1]) rfl (fun H locs hP hD hS => ?_)
  refine lv_if_eq (tgt := 22) hx hb dX11_sun_7 (by decide) (fun h7 => ?_) (fun h7 => ?_)
  · have hg := zp hg h7
    exact B22 v_M_acts v_M_waits v_M_place a_M_refused a_M_held a_M_wait a_M_act a_M_clocks a_M_counts a_M_talking a_M_heap _ _ _ (lv_sub hl [0] rfl) hP hD hS hg
  · have hg := zn hg h7
    refine lv_iload_n hx hb dX11_sun_10 rfl (lv_at hl 2 rfl) ?_
    refine lv_i2l hx hb dX11_sun_11 rfl ?_
    refine lv_lconst (v := 0) hx hb dX11_sun_12 (by decide) ?_
    refine lv_ldc2 (v := 999) hx hb S.2.2.2.1 (ht _ zw_280) dX11_sun_13 ?_
    obtain ⟨v5, hc6, hg⟩ := zbd hg
    refine zcallS (rest := []) S (c_X11_in l D cI cJ cZ cA ga x2.toInt64 (0 : Int64) (999 : Int64) v5 hc6) (zgS zw_220 zw_221 zw_5 zw_222) rfl hd_X11_in ⟨rfl, rfl⟩ ⟨Nat.le_of_ble_eq_true rfl, Nat.le_of_ble_eq_true rfl⟩ rfl hl.1 rfl (Nat.le_of_ble_eq_true rfl) dX11_sun_16 hP hD hS hA hK hG (isC := []) rfl rfl rfl (w2 := (ws_X11_sun cI cJ cZ cA q_M q_M_refused q_M_held q_M_now q_M_wait q_M_act q_M_clocks q_M_counts q_M_talking q_M_heap u_M_images u_M_kept u_M_text u_M_size u_M_sign u_M_manyAbove u_M_manyBelow u_M_above u_M_below u_M_at u_M_begin u_M_kind u_M_value u_M_read u_M_most u_M_hasA u_M_hasB u_M_talks u_M_big v_M_acts v_M_waits v_M_place a_M_refused a_M_held a_M_now a_M_wait a_M_act a_M_clocks a_M_counts a_M_talking a_M_heap)) rfl (st1 := [.int v5]) rfl (fun H locs hP hD hS => ?_)
    refine lv_if_ne (tgt := 29) hx hb dX11_sun_19 (by decide) (fun h19 => ?_) (fun h19 => ?_)
    · have hg := zn hg h19
      refine lv_aload_n hx hb dX11_sun_29 rfl (lv_at hl 0 rfl) ?_
      refine lv_bipush (v := 31) hx hb dX11_sun_30 (by decide) ?_
      obtain ⟨v7, hc8, hg⟩ := zbd hg
      refine zcallV (rest := []) S (c_X11_winds l D cI cJ cZ cA ga q_M q_M_held q_M_now q_M_wait q_M_act q_M_clocks q_M_counts q_M_talking q_M_heap u_M_images u_M_kept u_M_text u_M_size u_M_sign u_M_manyAbove u_M_manyBelow u_M_above u_M_below (.ref q_M_refused) u_M_at u_M_begin u_M_kind u_M_value u_M_read u_M_most u_M_hasA u_M_hasB u_M_talks u_M_big v_M_acts v_M_waits v_M_place a_M_held a_M_now a_M_wait a_M_act a_M_clocks a_M_counts a_M_talking a_M_heap 31 v7 hc8) (zgV zw_678 zw_679 zw_680 zw_5 zw_681) rfl hd_X11_winds ⟨rfl, rfl⟩ ⟨Nat.le_of_ble_eq_true rfl, Nat.le_of_ble_eq_true rfl⟩ 0 11 rfl rfl rfl hl.1 rfl (Nat.le_of_ble_eq_true rfl) dX11_sun_32 hP hD hS hA hK hG (isC := [0, 2, 3, 4, 5, 6, 7, 8, 9]) rfl rfl rfl (w2 := (ws_X11_sun cI cJ cZ cA q_M q_M_refused q_M_held q_M_now q_M_wait q_M_act q_M_clocks q_M_counts q_M_talking q_M_heap u_M_images u_M_kept u_M_text u_M_size u_M_sign u_M_manyAbove u_M_manyBelow u_M_above u_M_below u_M_at u_M_begin u_M_kind u_M_value u_M_read u_M_most u_M_hasA u_M_hasB u_M_talks u_M_big v7.1 v7.2.1 v7.2.2.1 a_M_refused v7.2.2.2.1 a_M_now v7.2.2.2.2.1 v7.2.2.2.2.2.1 v7.2.2.2.2.2.2.1 v7.2.2.2.2.2.2.2.1 v7.2.2.2.2.2.2.2.2.1 v7.2.2.2.2.2.2.2.2.2)) rfl (st1 := []) rfl (fun H locs hP hD hS => ?_)
      refine lv_aload_n hx hb dX11_sun_35 rfl (lv_at hl 0 rfl) ?_
      refine lv_iload_n hx hb dX11_sun_36 rfl (lv_at hl 1 rfl) ?_
      refine lv_iload_n hx hb dX11_sun_37 rfl (lv_at hl 2 rfl) ?_
      obtain ⟨v9, hc10, hg⟩ := zbd hg
      refine zcallV (rest := []) S (c_X11_first l D cI cJ cZ cA ga q_M q_M_clocks (.ref q_M_now) u_M_images u_M_kept u_M_text u_M_size u_M_sign u_M_manyAbove u_M_manyBelow u_M_above u_M_below (.ref q_M_refused) u_M_at u_M_begin u_M_kind u_M_value u_M_read (.int v7.1) (.ref q_M_act) (.int v7.2.1) (.ref q_M_wait) (.ref q_M_held) (.int v7.2.2.1) (.ref q_M_heap) (.ref q_M_counts) (.ref q_M_talking) u_M_most u_M_hasA u_M_hasB u_M_talks u_M_big v7.2.2.2.2.2.2.1 x1 x2 v9 hc10) (zgV zw_720 zw_721 zw_722 zw_5 zw_723) rfl hd_X11_first ⟨rfl, rfl⟩ ⟨Nat.le_of_ble_eq_true rfl, Nat.le_of_ble_eq_true rfl⟩ 0 11 rfl rfl rfl hl.1 rfl (Nat.le_of_ble_eq_true rfl) dX11_sun_38 hP hD hS hA hK hG (isC := [0, 6]) rfl rfl rfl (w2 := (ws_X11_sun cI cJ cZ cA q_M q_M_refused q_M_held q_M_now q_M_wait q_M_act q_M_clocks q_M_counts q_M_talking q_M_heap u_M_images u_M_kept u_M_text u_M_size u_M_sign u_M_manyAbove u_M_manyBelow u_M_above u_M_below u_M_at u_M_begin u_M_kind u_M_value u_M_read u_M_most u_M_hasA u_M_hasB u_M_talks u_M_big v7.1 v7.2.1 v7.2.2.1 a_M_refused v7.2.2.2.1 a_M_now v7.2.2.2.2.1 v7.2.2.2.2.2.1 v7.2.2.2.2.2.2.1 v7.2.2.2.2.2.2.2.1 v7.2.2.2.2.2.2.2.2.1 v7.2.2.2.2.2.2.2.2.2)) rfl (st1 := [.int v9]) rfl (fun H locs hP hD hS => ?_)
      exact hret v9 v7.1 v7.2.1 v7.2.2.1 a_M_refused v7.2.2.2.1 v7.2.2.2.2.1 v7.2.2.2.2.2.1 v7.2.2.2.2.2.2.1 v7.2.2.2.2.2.2.2.1 v7.2.2.2.2.2.2.2.2.1 v7.2.2.2.2.2.2.2.2.2 hg _ _ _ _ hP hS dX11_sun_41
    · have hg := zp hg h19
      exact B22 v_M_acts v_M_waits v_M_place a_M_refused a_M_held a_M_wait a_M_act a_M_clocks a_M_counts a_M_talking a_M_heap _ _ _ (lv_sub hl [0] rfl) hP hD hS hg

/-! SpokenClockModel.letter(III)I -/
abbrev ws_X11_letter (cI cJ cZ cA : ClassId) (q_M q_M_refused q_M_held q_M_now q_M_wait q_M_act q_M_clocks q_M_counts q_M_talking q_M_heap : Nat) (u_M_images : Value) (u_M_kept : Value) (u_M_text : Value) (u_M_size : Value) (u_M_sign : Value) (u_M_manyAbove : Value) (u_M_manyBelow : Value) (u_M_above : Value) (u_M_below : Value) (u_M_at : Value) (u_M_begin : Value) (u_M_kind : Value) (u_M_value : Value) (u_M_read : Value) (u_M_most : Value) (u_M_hasA : Value) (u_M_hasB : Value) (u_M_talks : Value) (u_M_big : Value) (v_M_acts : Int32) (v_M_waits : Int32) (v_M_place : Int32) (a_M_refused : Nat → Int32) (a_M_held : Nat → Int32) (a_M_now : Nat → Int32) (a_M_wait : Nat → Int32) (a_M_act : Nat → Int32) (a_M_clocks : Nat → Int32) (a_M_counts : Nat → Int32) (a_M_talking : Nat → Int32) (a_M_heap : Nat → Int64) : va_W := [(q_M, .inr (11, [.ref q_M_now, u_M_images, u_M_kept, u_M_text, u_M_size, u_M_sign, u_M_manyAbove, u_M_manyBelow, u_M_above, u_M_below, .ref q_M_refused, u_M_at, u_M_begin, u_M_kind, u_M_value, u_M_read, .int v_M_acts, .ref q_M_act, .int v_M_waits, .ref q_M_wait, .ref q_M_held, .int v_M_place, .ref q_M_heap, .ref q_M_clocks, .ref q_M_counts, .ref q_M_talking, u_M_most, u_M_hasA, u_M_hasB, u_M_talks, u_M_big])), (q_M_refused, .inl (cI, 3, .inl a_M_refused)), (q_M_held, .inl (cZ, 9, .inl a_M_held)), (q_M_now, .inl (cI, 155, .inl a_M_now)), (q_M_wait, .inl (cI, 80, .inl a_M_wait)), (q_M_act, .inl (cI, 80, .inl a_M_act)), (q_M_clocks, .inl (cI, 482, .inl a_M_clocks)), (q_M_counts, .inl (cI, 1200, .inl a_M_counts)), (q_M_talking, .inl (cZ, 1200, .inl a_M_talking)), (q_M_heap, .inl (cJ, 41, .inr (.inl a_M_heap)))]
abbrev rm_X11_letter : Room := { frames := 5, cells := 0, slots := 0, locals := 120 }
def g_X11_letter_34 (a_M_now : Nat → Int32) (x1 : Int32) (x2 : Int32) (x3 : Int32) (v_M_acts : Int32) (v_M_waits : Int32) (v_M_place : Int32) (a_M_refused : Nat → Int32) (a_M_held : Nat → Int32) (a_M_wait : Nat → Int32) (a_M_act : Nat → Int32) (a_M_clocks : Nat → Int32) (a_M_counts : Nat → Int32) (a_M_talking : Nat → Int32) (a_M_heap : Nat → Int64) : Option (Int32 × Int32 × Int32 × Int32 × (Nat → Int32) × (Nat → Int32) × (Nat → Int32) × (Nat → Int32) × (Nat → Int32) × (Nat → Int32) × (Nat → Int32) × (Nat → Int64)) :=
  (g_X11_refuse (-2) a_M_refused).bind fun v3 =>
  some (v3.1, v_M_acts, v_M_waits, v_M_place, v3.2, a_M_held, a_M_wait, a_M_act, a_M_clocks, a_M_counts, a_M_talking, a_M_heap)
def g_X11_letter_71 (a_M_now : Nat → Int32) (x1 : Int32) (x2 : Int32) (x3 : Int32) (v_M_acts : Int32) (v_M_waits : Int32) (v_M_place : Int32) (a_M_refused : Nat → Int32) (a_M_held : Nat → Int32) (a_M_wait : Nat → Int32) (a_M_act : Nat → Int32) (a_M_clocks : Nat → Int32) (a_M_counts : Nat → Int32) (a_M_talking : Nat → Int32) (a_M_heap : Nat → Int64) : Option (Int32 × Int32 × Int32 × Int32 × (Nat → Int32) × (Nat → Int32) × (Nat → Int32) × (Nat → Int32) × (Nat → Int32) × (Nat → Int32) × (Nat → Int32) × (Nat → Int64)) :=
  some ((-1), v_M_acts, v_M_waits, v_M_place, a_M_refused, a_M_held, a_M_wait, a_M_act, a_M_clocks, a_M_counts, a_M_talking, a_M_heap)
def g_X11_letter (a_M_now : Nat → Int32) (x1 : Int32) (x2 : Int32) (x3 : Int32) (v_M_acts : Int32) (v_M_waits : Int32) (v_M_place : Int32) (a_M_refused : Nat → Int32) (a_M_held : Nat → Int32) (a_M_wait : Nat → Int32) (a_M_act : Nat → Int32) (a_M_clocks : Nat → Int32) (a_M_counts : Nat → Int32) (a_M_talking : Nat → Int32) (a_M_heap : Nat → Int64) : Option (Int32 × Int32 × Int32 × Int32 × (Nat → Int32) × (Nat → Int32) × (Nat → Int32) × (Nat → Int32) × (Nat → Int32) × (Nat → Int32) × (Nat → Int32) × (Nat → Int64)) :=
  (g_X11_in x1.toInt64 (0 : Int64) (1 : Int64)).bind fun v1 =>
  if v1 = 0 then (
    g_X11_letter_34 a_M_now x1 x2 x3 v_M_acts v_M_waits v_M_place a_M_refused a_M_held a_M_wait a_M_act a_M_clocks a_M_counts a_M_talking a_M_heap
  ) else (
    (g_X11_in x2.toInt64 (0 : Int64) (999 : Int64)).bind fun v5 =>
    if v5 = 0 then (
      g_X11_letter_34 a_M_now x1 x2 x3 v_M_acts v_M_waits v_M_place a_M_refused a_M_held a_M_wait a_M_act a_M_clocks a_M_counts a_M_talking a_M_heap
    ) else (
      (g_X11_in x3.toInt64 (0 : Int64) (240 : Int64)).bind fun v7 =>
      if v7 = 0 then (
        g_X11_letter_34 a_M_now x1 x2 x3 v_M_acts v_M_waits v_M_place a_M_refused a_M_held a_M_wait a_M_act a_M_clocks a_M_counts a_M_talking a_M_heap
      ) else (
        (g_X11_winds a_M_now 31 v_M_acts v_M_waits v_M_place a_M_held a_M_wait a_M_act a_M_clocks a_M_counts a_M_talking a_M_heap).bind fun v9 =>
        (g_X11_first v9.2.2.2.2.2.2.1 x1 x2).bind fun v11 =>
        if v11 = (-1) then (
          g_X11_letter_71 a_M_now x1 x2 x3 v9.1 v9.2.1 v9.2.2.1 a_M_refused v9.2.2.2.1 v9.2.2.2.2.1 v9.2.2.2.2.2.1 v9.2.2.2.2.2.2.1 v9.2.2.2.2.2.2.2.1 v9.2.2.2.2.2.2.2.2.1 v9.2.2.2.2.2.2.2.2.2
        ) else (
          if (v11 + x3) ≤ 240 then (
            if (((241 * (1 - x1)) + v11) + x3) < 0 ∨ 482 ≤ (((241 * (1 - x1)) + v11) + x3).toNatClampNeg then none else
            some (v9.2.2.2.2.2.2.1 ((((241 * (1 - x1)) + v11) + x3).toNatClampNeg), v9.1, v9.2.1, v9.2.2.1, a_M_refused, v9.2.2.2.1, v9.2.2.2.2.1, v9.2.2.2.2.2.1, v9.2.2.2.2.2.2.1, v9.2.2.2.2.2.2.2.1, v9.2.2.2.2.2.2.2.2.1, v9.2.2.2.2.2.2.2.2.2)
          ) else (
            g_X11_letter_71 a_M_now x1 x2 x3 v9.1 v9.2.1 v9.2.2.1 a_M_refused v9.2.2.2.1 v9.2.2.2.2.1 v9.2.2.2.2.2.1 v9.2.2.2.2.2.2.1 v9.2.2.2.2.2.2.2.1 v9.2.2.2.2.2.2.2.2.1 v9.2.2.2.2.2.2.2.2.2
          )
        )
      )
    )
  )
theorem hd_X11_letter : yX11_letter.cls = RX11 ∧ yX11_letter.cls ≠ "java/lang/invoke/MethodHandle" ∧ yX11_letter.cls ≠ "java/lang/invoke/VarHandle" ∧ (parseMethodDescriptor yX11_letter.desc).map (fun d => d.parameters.length) = some 3 := by decide +kernel
set_option maxHeartbeats 4000000 in
set_option maxRecDepth 100000 in
theorem c_X11_letter (l : Launch) (D : va_G) (cI cJ cZ cA : ClassId) (ga : Nat → Nat) (q_M q_M_refused q_M_held q_M_now q_M_wait q_M_act q_M_clocks q_M_counts q_M_talking q_M_heap : Nat) (u_M_images : Value) (u_M_kept : Value) (u_M_text : Value) (u_M_size : Value) (u_M_sign : Value) (u_M_manyAbove : Value) (u_M_manyBelow : Value) (u_M_above : Value) (u_M_below : Value) (u_M_at : Value) (u_M_begin : Value) (u_M_kind : Value) (u_M_value : Value) (u_M_read : Value) (u_M_most : Value) (u_M_hasA : Value) (u_M_hasB : Value) (u_M_talks : Value) (u_M_big : Value) (v_M_acts : Int32) (v_M_waits : Int32) (v_M_place : Int32) (a_M_refused : Nat → Int32) (a_M_held : Nat → Int32) (a_M_now : Nat → Int32) (a_M_wait : Nat → Int32) (a_M_act : Nat → Int32) (a_M_clocks : Nat → Int32) (a_M_counts : Nat → Int32) (a_M_talking : Nat → Int32) (a_M_heap : Nat → Int64) (x1 : Int32) (x2 : Int32) (x3 : Int32) (o : Int32 × Int32 × Int32 × Int32 × (Nat → Int32) × (Nat → Int32) × (Nat → Int32) × (Nat → Int32) × (Nat → Int32) × (Nat → Int32) × (Nat → Int32) × (Nat → Int64)) (hg : g_X11_letter a_M_now x1 x2 x3 v_M_acts v_M_waits v_M_place a_M_refused a_M_held a_M_wait a_M_act a_M_clocks a_M_counts a_M_talking a_M_heap = some o) : zM l yX11_letter (Cond.code yX11_letter cX11_letter 5 (some .int) :: wsL_law) rm_X11_letter D (zTy cI cJ cZ cA) ga [.ref q_M, .int x1, .int x2, .int x3] (ws_X11_letter cI cJ cZ cA q_M q_M_refused q_M_held q_M_now q_M_wait q_M_act q_M_clocks q_M_counts q_M_talking q_M_heap u_M_images u_M_kept u_M_text u_M_size u_M_sign u_M_manyAbove u_M_manyBelow u_M_above u_M_below u_M_at u_M_begin u_M_kind u_M_value u_M_read u_M_most u_M_hasA u_M_hasB u_M_talks u_M_big v_M_acts v_M_waits v_M_place a_M_refused a_M_held a_M_now a_M_wait a_M_act a_M_clocks a_M_counts a_M_talking a_M_heap) (ws_X11_letter cI cJ cZ cA q_M q_M_refused q_M_held q_M_now q_M_wait q_M_act q_M_clocks q_M_counts q_M_talking q_M_heap u_M_images u_M_kept u_M_text u_M_size u_M_sign u_M_manyAbove u_M_manyBelow u_M_above u_M_below u_M_at u_M_begin u_M_kind u_M_value u_M_read u_M_most u_M_hasA u_M_hasB u_M_talks u_M_big o.2.1 o.2.2.1 o.2.2.2.1 o.2.2.2.2.1 o.2.2.2.2.2.1 a_M_now o.2.2.2.2.2.2.1 o.2.2.2.2.2.2.2.1 o.2.2.2.2.2.2.2.2.1 o.2.2.2.2.2.2.2.2.2.1 o.2.2.2.2.2.2.2.2.2.2.1 o.2.2.2.2.2.2.2.2.2.2.2) (some (.int o.1)) := by
  refine zenterI (own := RX11) (by decide) rfl rfl (Nat.le_of_ble_eq_true rfl) ?_
  intro p e s m args below meth c A ls Q S hA hK hG hl hP hD hS hret0
  have hx := S.1
  have hb := S.2.1
  have ht : ∀ w, w ∈ wsL_law → w.before args s = true := fun w h => S.2.2.2.2 w (List.mem_cons_of_mem _ h)
  have hret : ∀ (r9 : Int32) (v_M_acts : Int32) (v_M_waits : Int32) (v_M_place : Int32) (a_M_refused : Nat → Int32) (a_M_held : Nat → Int32) (a_M_wait : Nat → Int32) (a_M_act : Nat → Int32) (a_M_clocks : Nat → Int32) (a_M_counts : Nat → Int32) (a_M_talking : Nat → Int32) (a_M_heap : Nat → Int64), (some (r9, v_M_acts, v_M_waits, v_M_place, a_M_refused, a_M_held, a_M_wait, a_M_act, a_M_clocks, a_M_counts, a_M_talking, a_M_heap) : Option (Int32 × Int32 × Int32 × Int32 × (Nat → Int32) × (Nat → Int32) × (Nat → Int32) × (Nat → Int32) × (Nat → Int32) × (Nat → Int32) × (Nat → Int32) × (Nat → Int64))) = some o → ∀ (H : Heap) (locs : List Loc) (pc : Nat) (ls : Array Slot), va_P D vwCl (ws_X11_letter cI cJ cZ cA q_M q_M_refused q_M_held q_M_now q_M_wait q_M_act q_M_clocks q_M_counts q_M_talking q_M_heap u_M_images u_M_kept u_M_text u_M_size u_M_sign u_M_manyAbove u_M_manyBelow u_M_above u_M_below u_M_at u_M_begin u_M_kind u_M_value u_M_read u_M_most u_M_hasA u_M_hasB u_M_talks u_M_big v_M_acts v_M_waits v_M_place a_M_refused a_M_held a_M_now a_M_wait a_M_act a_M_clocks a_M_counts a_M_talking a_M_heap) H → va_S A s.heap H locs → decode cX11_letter pc = .ok (.ireturn, 1) → W p l e rm_X11_letter s m args below meth c H locs 0 0 Q (F0 m pc ls [.int r9]) := by
    intro r9 v_M_acts v_M_waits v_M_place a_M_refused a_M_held a_M_wait a_M_act a_M_clocks a_M_counts a_M_talking a_M_heap he; cases he; exact hret0
  have hl : lv_has ls 5 [(0, .ref q_M), (1, .int x1), (2, .int x2), (3, .int x3)] := hl
  have B34 : ∀ (v_M_acts : Int32) (v_M_waits : Int32) (v_M_place : Int32) (a_M_refused : Nat → Int32) (a_M_held : Nat → Int32) (a_M_wait : Nat → Int32) (a_M_act : Nat → Int32) (a_M_clocks : Nat → Int32) (a_M_counts : Nat → Int32) (a_M_talking : Nat → Int32) (a_M_heap : Nat → Int64) (H : Heap) (locs : List Loc) (ls : Array Slot) (hl : lv_has ls 5 [(0, .ref q_M)]) (hP : va_P D vwCl (ws_X11_letter cI cJ cZ cA q_M q_M_refused q_M_held q_M_now q_M_wait q_M_act q_M_clocks q_M_counts q_M_talking q_M_heap u_M_images u_M_kept u_M_text u_M_size u_M_sign u_M_manyAbove u_M_manyBelow u_M_above u_M_below u_M_at u_M_begin u_M_kind u_M_value u_M_read u_M_most u_M_hasA u_M_hasB u_M_talks u_M_big v_M_acts v_M_waits v_M_place a_M_refused a_M_held a_M_now a_M_wait a_M_act a_M_clocks a_M_counts a_M_talking a_M_heap) H) (hD : va_D A (ws_X11_letter cI cJ cZ cA q_M q_M_refused q_M_held q_M_now q_M_wait q_M_act q_M_clocks q_M_counts q_M_talking q_M_heap u_M_images u_M_kept u_M_text u_M_size u_M_sign u_M_manyAbove u_M_manyBelow u_M_above u_M_below u_M_at u_M_begin u_M_kind u_M_value u_M_read u_M_most u_M_hasA u_M_hasB u_M_talks u_M_big v_M_acts v_M_waits v_M_place a_M_refused a_M_held a_M_now a_M_wait a_M_act a_M_clocks a_M_counts a_M_talking a_M_heap)) (hS : va_S A s.heap H locs), g_X11_letter_34 a_M_now x1 x2 x3 v_M_acts v_M_waits v_M_place a_M_refused a_M_held a_M_wait a_M_act a_M_clocks a_M_counts a_M_talking a_M_heap = some o → W p l e rm_X11_letter s m args below meth c H locs 0 0 Q (F0 m 34 ls []) := by
    intro  v_M_acts v_M_waits v_M_place a_M_refused a_M_held a_M_wait a_M_act a_M_clocks a_M_counts a_M_talking a_M_heap H locs ls hl hP hD hS hg
    refine lv_aload_n hx hb dX11_letter_34 rfl (lv_at hl 0 rfl) ?_
    refine lv_bipush (v := (-2)) hx hb dX11_letter_35 (by decide) ?_
    obtain ⟨v3, hc4, hg⟩ := zbd hg
    refine zcallV (rest := []) S (c_X11_refuse l D cI cJ cZ cA ga q_M q_M_refused (.ref q_M_now) u_M_images u_M_kept u_M_text u_M_size u_M_sign u_M_manyAbove u_M_manyBelow u_M_above u_M_below u_M_at u_M_begin u_M_kind u_M_value u_M_read (.int v_M_acts) (.ref q_M_act) (.int v_M_waits) (.ref q_M_wait) (.ref q_M_held) (.int v_M_place) (.ref q_M_heap) (.ref q_M_clocks) (.ref q_M_counts) (.ref q_M_talking) u_M_most u_M_hasA u_M_hasB u_M_talks u_M_big a_M_refused (-2) v3 hc4) (zgV zw_223 zw_224 zw_225 zw_5 zw_226) rfl hd_X11_refuse ⟨rfl, rfl⟩ ⟨Nat.le_of_ble_eq_true rfl, Nat.le_of_ble_eq_true rfl⟩ 0 11 rfl rfl rfl hl.1 rfl (Nat.le_of_ble_eq_true rfl) dX11_letter_37 hP hD hS hA hK hG (isC := [0, 1]) rfl rfl rfl (w2 := (ws_X11_letter cI cJ cZ cA q_M q_M_refused q_M_held q_M_now q_M_wait q_M_act q_M_clocks q_M_counts q_M_talking q_M_heap u_M_images u_M_kept u_M_text u_M_size u_M_sign u_M_manyAbove u_M_manyBelow u_M_above u_M_below u_M_at u_M_begin u_M_kind u_M_value u_M_read u_M_most u_M_hasA u_M_hasB u_M_talks u_M_big v_M_acts v_M_waits v_M_place v3.2 a_M_held a_M_now a_M_wait a_M_act a_M_clocks a_M_counts a_M_talking a_M_heap)) rfl (st1 := [.int v3.1]) rfl (fun H locs hP hD hS => ?_)
    exact hret v3.1 v_M_acts v_M_waits v_M_place v3.2 a_M_held a_M_wait a_M_act a_M_clocks a_M_counts a_M_talking a_M_heap hg _ _ _ _ hP hS dX11_letter_40
  have B71 : ∀ (v_M_acts : Int32) (v_M_waits : Int32) (v_M_place : Int32) (a_M_refused : Nat → Int32) (a_M_held : Nat → Int32) (a_M_wait : Nat → Int32) (a_M_act : Nat → Int32) (a_M_clocks : Nat → Int32) (a_M_counts : Nat → Int32) (a_M_talking : Nat → Int32) (a_M_heap : Nat → Int64) (H : Heap) (locs : List Loc) (ls : Array Slot) (hl : lv_has ls 5 []) (hP : va_P D vwCl (ws_X11_letter cI cJ cZ cA q_M q_M_refused q_M_held q_M_now q_M_wait q_M_act q_M_clocks q_M_counts q_M_talking q_M_heap u_M_images u_M_kept u_M_text u_M_size u_M_sign u_M_manyAbove u_M_manyBelow u_M_above u_M_below u_M_at u_M_begin u_M_kind u_M_value u_M_read u_M_most u_M_hasA u_M_hasB u_M_talks u_M_big v_M_acts v_M_waits v_M_place a_M_refused a_M_held a_M_now a_M_wait a_M_act a_M_clocks a_M_counts a_M_talking a_M_heap) H) (hD : va_D A (ws_X11_letter cI cJ cZ cA q_M q_M_refused q_M_held q_M_now q_M_wait q_M_act q_M_clocks q_M_counts q_M_talking q_M_heap u_M_images u_M_kept u_M_text u_M_size u_M_sign u_M_manyAbove u_M_manyBelow u_M_above u_M_below u_M_at u_M_begin u_M_kind u_M_value u_M_read u_M_most u_M_hasA u_M_hasB u_M_talks u_M_big v_M_acts v_M_waits v_M_place a_M_refused a_M_held a_M_now a_M_wait a_M_act a_M_clocks a_M_counts a_M_talking a_M_heap)) (hS : va_S A s.heap H locs), g_X11_letter_71 a_M_now x1 x2 x3 v_M_acts v_M_waits v_M_place a_M_refused a_M_held a_M_wait a_M_act a_M_clocks a_M_counts a_M_talking a_M_heap = some o → W p l e rm_X11_letter s m args below meth c H locs 0 0 Q (F0 m 71 ls []) := by
    intro  v_M_acts v_M_waits v_M_place a_M_refused a_M_held a_M_wait a_M_act a_M_clocks a_M_counts a_M_talking a_M_heap H locs ls hl hP hD hS hg
    refine lv_iconst (v := (-1)) hx hb dX11_letter_71 (by decide) ?_
    refine lv_goto (tgt := 92) hx hb dX11_letter_72 (by decide) ?_
    exact hret (-1) v_M_acts v_M_waits v_M_place a_M_refused a_M_held a_M_wait a_M_act a_M_clocks a_M_counts a_M_talking a_M_heap hg _ _ _ _ hP hS dX11_letter_92
  refine lv_iload_n hx hb dX11_letter_0 rfl (lv_at hl 1 rfl) ?_
  refine lv_i2l hx hb dX11_letter_1 rfl ?_
  refine lv_lconst (v := 0) hx hb dX11_letter_2 (by decide) ?_
  refine lv_lconst (v := 1) hx hb dX11_letter_3 (by decide) ?_
  obtain ⟨v1, hc2, hg⟩ := zbd hg
  refine zcallS (rest := []) S (c_X11_in l D cI cJ cZ cA ga x1.toInt64 (0 : Int64) (1 : Int64) v1 hc2) (zgS zw_220 zw_221 zw_5 zw_222) rfl hd_X11_in ⟨rfl, rfl⟩ ⟨Nat.le_of_ble_eq_true rfl, Nat.le_of_ble_eq_true rfl⟩ rfl hl.1 rfl (Nat.le_of_ble_eq_true rfl) dX11_letter_4 hP hD hS hA hK hG (isC := []) rfl rfl rfl (w2 := (ws_X11_letter cI cJ cZ cA q_M q_M_refused q_M_held q_M_now q_M_wait q_M_act q_M_clocks q_M_counts q_M_talking q_M_heap u_M_images u_M_kept u_M_text u_M_size u_M_sign u_M_manyAbove u_M_manyBelow u_M_above u_M_below u_M_at u_M_begin u_M_kind u_M_value u_M_read u_M_most u_M_hasA u_M_hasB u_M_talks u_M_big v_M_acts v_M_waits v_M_place a_M_refused a_M_held a_M_now a_M_wait a_M_act a_M_clocks a_M_counts a_M_talking a_M_heap)) rfl (st1 := [.int v1]) rfl (fun H locs hP hD hS => ?_)
  refine lv_if_eq (tgt := 34) hx hb dX11_letter_7 (by decide) (fun h7 => ?_) (fun h7 => ?_)
  · have hg := zp hg h7
    exact B34 v_M_acts v_M_waits v_M_place a_M_refused a_M_held a_M_wait a_M_act a_M_clocks a_M_counts a_M_talking a_M_heap _ _ _ (lv_sub hl [0] rfl) hP hD hS hg
  · have hg := zn hg h7
    refine lv_iload_n hx hb dX11_letter_10 rfl (lv_at hl 2 rfl) ?_
    refine lv_i2l hx hb dX11_letter_11 rfl ?_
    refine lv_lconst (v := 0) hx hb dX11_letter_12 (by decide) ?_
    refine lv_ldc2 (v := 999) hx hb S.2.2.2.1 (ht _ zw_280) dX11_letter_13 ?_
    obtain ⟨v5, hc6, hg⟩ := zbd hg
    refine zcallS (rest := []) S (c_X11_in l D cI cJ cZ cA ga x2.toInt64 (0 : Int64) (999 : Int64) v5 hc6) (zgS zw_220 zw_221 zw_5 zw_222) rfl hd_X11_in ⟨rfl, rfl⟩ ⟨Nat.le_of_ble_eq_true rfl, Nat.le_of_ble_eq_true rfl⟩ rfl hl.1 rfl (Nat.le_of_ble_eq_true rfl) dX11_letter_16 hP hD hS hA hK hG (isC := []) rfl rfl rfl (w2 := (ws_X11_letter cI cJ cZ cA q_M q_M_refused q_M_held q_M_now q_M_wait q_M_act q_M_clocks q_M_counts q_M_talking q_M_heap u_M_images u_M_kept u_M_text u_M_size u_M_sign u_M_manyAbove u_M_manyBelow u_M_above u_M_below u_M_at u_M_begin u_M_kind u_M_value u_M_read u_M_most u_M_hasA u_M_hasB u_M_talks u_M_big v_M_acts v_M_waits v_M_place a_M_refused a_M_held a_M_now a_M_wait a_M_act a_M_clocks a_M_counts a_M_talking a_M_heap)) rfl (st1 := [.int v5]) rfl (fun H locs hP hD hS => ?_)
    refine lv_if_eq (tgt := 34) hx hb dX11_letter_19 (by decide) (fun h19 => ?_) (fun h19 => ?_)
    · have hg := zp hg h19
      exact B34 v_M_acts v_M_waits v_M_place a_M_refused a_M_held a_M_wait a_M_act a_M_clocks a_M_counts a_M_talking a_M_heap _ _ _ (lv_sub hl [0] rfl) hP hD hS hg
    · have hg := zn hg h19
      refine lv_iload_n hx hb dX11_letter_22 rfl (lv_at hl 3 rfl) ?_
      refine lv_i2l hx hb dX11_letter_23 rfl ?_
      refine lv_lconst (v := 0) hx hb dX11_letter_24 (by decide) ?_
      refine lv_ldc2 (v := 240) hx hb S.2.2.2.1 (ht _ zw_219) dX11_letter_25 ?_
      obtain ⟨v7, hc8, hg⟩ := zbd hg
      refine zcallS (rest := []) S (c_X11_in l D cI cJ cZ cA ga x3.toInt64 (0 : Int64) (240 : Int64) v7 hc8) (zgS zw_220 zw_221 zw_5 zw_222) rfl hd_X11_in ⟨rfl, rfl⟩ ⟨Nat.le_of_ble_eq_true rfl, Nat.le_of_ble_eq_true rfl⟩ rfl hl.1 rfl (Nat.le_of_ble_eq_true rfl) dX11_letter_28 hP hD hS hA hK hG (isC := []) rfl rfl rfl (w2 := (ws_X11_letter cI cJ cZ cA q_M q_M_refused q_M_held q_M_now q_M_wait q_M_act q_M_clocks q_M_counts q_M_talking q_M_heap u_M_images u_M_kept u_M_text u_M_size u_M_sign u_M_manyAbove u_M_manyBelow u_M_above u_M_below u_M_at u_M_begin u_M_kind u_M_value u_M_read u_M_most u_M_hasA u_M_hasB u_M_talks u_M_big v_M_acts v_M_waits v_M_place a_M_refused a_M_held a_M_now a_M_wait a_M_act a_M_clocks a_M_counts a_M_talking a_M_heap)) rfl (st1 := [.int v7]) rfl (fun H locs hP hD hS => ?_)
      refine lv_if_ne (tgt := 41) hx hb dX11_letter_31 (by decide) (fun h31 => ?_) (fun h31 => ?_)
      · have hg := zn hg h31
        refine lv_aload_n hx hb dX11_letter_41 rfl (lv_at hl 0 rfl) ?_
        refine lv_bipush (v := 31) hx hb dX11_letter_42 (by decide) ?_
        obtain ⟨v9, hc10, hg⟩ := zbd hg
        refine zcallV (rest := []) S (c_X11_winds l D cI cJ cZ cA ga q_M q_M_held q_M_now q_M_wait q_M_act q_M_clocks q_M_counts q_M_talking q_M_heap u_M_images u_M_kept u_M_text u_M_size u_M_sign u_M_manyAbove u_M_manyBelow u_M_above u_M_below (.ref q_M_refused) u_M_at u_M_begin u_M_kind u_M_value u_M_read u_M_most u_M_hasA u_M_hasB u_M_talks u_M_big v_M_acts v_M_waits v_M_place a_M_held a_M_now a_M_wait a_M_act a_M_clocks a_M_counts a_M_talking a_M_heap 31 v9 hc10) (zgV zw_678 zw_679 zw_680 zw_5 zw_681) rfl hd_X11_winds ⟨rfl, rfl⟩ ⟨Nat.le_of_ble_eq_true rfl, Nat.le_of_ble_eq_true rfl⟩ 0 11 rfl rfl rfl hl.1 rfl (Nat.le_of_ble_eq_true rfl) dX11_letter_44 hP hD hS hA hK hG (isC := [0, 2, 3, 4, 5, 6, 7, 8, 9]) rfl rfl rfl (w2 := (ws_X11_letter cI cJ cZ cA q_M q_M_refused q_M_held q_M_now q_M_wait q_M_act q_M_clocks q_M_counts q_M_talking q_M_heap u_M_images u_M_kept u_M_text u_M_size u_M_sign u_M_manyAbove u_M_manyBelow u_M_above u_M_below u_M_at u_M_begin u_M_kind u_M_value u_M_read u_M_most u_M_hasA u_M_hasB u_M_talks u_M_big v9.1 v9.2.1 v9.2.2.1 a_M_refused v9.2.2.2.1 a_M_now v9.2.2.2.2.1 v9.2.2.2.2.2.1 v9.2.2.2.2.2.2.1 v9.2.2.2.2.2.2.2.1 v9.2.2.2.2.2.2.2.2.1 v9.2.2.2.2.2.2.2.2.2)) rfl (st1 := []) rfl (fun H locs hP hD hS => ?_)
        refine lv_aload_n hx hb dX11_letter_47 rfl (lv_at hl 0 rfl) ?_
        refine lv_iload_n hx hb dX11_letter_48 rfl (lv_at hl 1 rfl) ?_
        refine lv_iload_n hx hb dX11_letter_49 rfl (lv_at hl 2 rfl) ?_
        obtain ⟨v11, hc12, hg⟩ := zbd hg
        refine zcallV (rest := []) S (c_X11_first l D cI cJ cZ cA ga q_M q_M_clocks (.ref q_M_now) u_M_images u_M_kept u_M_text u_M_size u_M_sign u_M_manyAbove u_M_manyBelow u_M_above u_M_below (.ref q_M_refused) u_M_at u_M_begin u_M_kind u_M_value u_M_read (.int v9.1) (.ref q_M_act) (.int v9.2.1) (.ref q_M_wait) (.ref q_M_held) (.int v9.2.2.1) (.ref q_M_heap) (.ref q_M_counts) (.ref q_M_talking) u_M_most u_M_hasA u_M_hasB u_M_talks u_M_big v9.2.2.2.2.2.2.1 x1 x2 v11 hc12) (zgV zw_720 zw_721 zw_722 zw_5 zw_723) rfl hd_X11_first ⟨rfl, rfl⟩ ⟨Nat.le_of_ble_eq_true rfl, Nat.le_of_ble_eq_true rfl⟩ 0 11 rfl rfl rfl hl.1 rfl (Nat.le_of_ble_eq_true rfl) dX11_letter_50 hP hD hS hA hK hG (isC := [0, 6]) rfl rfl rfl (w2 := (ws_X11_letter cI cJ cZ cA q_M q_M_refused q_M_held q_M_now q_M_wait q_M_act q_M_clocks q_M_counts q_M_talking q_M_heap u_M_images u_M_kept u_M_text u_M_size u_M_sign u_M_manyAbove u_M_manyBelow u_M_above u_M_below u_M_at u_M_begin u_M_kind u_M_value u_M_read u_M_most u_M_hasA u_M_hasB u_M_talks u_M_big v9.1 v9.2.1 v9.2.2.1 a_M_refused v9.2.2.2.1 a_M_now v9.2.2.2.2.1 v9.2.2.2.2.2.1 v9.2.2.2.2.2.2.1 v9.2.2.2.2.2.2.2.1 v9.2.2.2.2.2.2.2.2.1 v9.2.2.2.2.2.2.2.2.2)) rfl (st1 := [.int v11]) rfl (fun H locs hP hD hS => ?_)
        refine lv_istore (lv' := [(4, .int v11), (0, .ref q_M), (1, .int x1), (2, .int x2), (3, .int x3)]) hx hb dX11_letter_53 hl (by decide) rfl (fun ls hl => ?_)
        refine lv_iload hx hb dX11_letter_55 (lv_at hl 0 rfl) ?_
        refine lv_iconst (v := (-1)) hx hb dX11_letter_57 (by decide) ?_
        refine lv_icmp_eq (tgt := 71) hx hb dX11_letter_58 (by decide) (fun h58 => ?_) (fun h58 => ?_)
        · have hg := zp hg h58
          exact B71 v9.1 v9.2.1 v9.2.2.1 a_M_refused v9.2.2.2.1 v9.2.2.2.2.1 v9.2.2.2.2.2.1 v9.2.2.2.2.2.2.1 v9.2.2.2.2.2.2.2.1 v9.2.2.2.2.2.2.2.2.1 v9.2.2.2.2.2.2.2.2.2 _ _ _ (lv_sub hl [] rfl) hP hD hS hg
        · have hg := zn hg h58
          refine lv_iload hx hb dX11_letter_61 (lv_at hl 0 rfl) ?_
          refine lv_iload_n hx hb dX11_letter_63 rfl (lv_at hl 4 rfl) ?_
          refine lv_iadd hx hb dX11_letter_64 ?_
          refine lv_sipush (v := 240) hx hb dX11_letter_65 (by decide) ?_
          refine lv_icmp_le (tgt := 75) hx hb dX11_letter_68 (by decide) (fun h68 => ?_) (fun h68 => ?_)
          · have hg := zp hg h68
            refine lv_aload_n hx hb dX11_letter_75 rfl (lv_at hl 1 rfl) ?_
            refine zget (C := RX11) (T := TX11) (N := 31) S hK hP 0 rfl rfl 23 (Nat.le_of_ble_eq_true rfl) zf_11 zw_162 rfl dX11_letter_76 ?_
            refine lv_sipush (v := 241) hx hb dX11_letter_79 (by decide) ?_
            refine lv_iconst (v := 1) hx hb dX11_letter_82 (by decide) ?_
            refine lv_iload_n hx hb dX11_letter_83 rfl (lv_at hl 2 rfl) ?_
            refine lv_isub hx hb dX11_letter_84 ?_
            refine lv_imul hx hb dX11_letter_85 ?_
            refine lv_iload hx hb dX11_letter_86 (lv_at hl 0 rfl) ?_
            refine lv_iadd hx hb dX11_letter_88 ?_
            refine lv_iload_n hx hb dX11_letter_89 rfl (lv_at hl 4 rfl) ?_
            refine lv_iadd hx hb dX11_letter_90 ?_
            obtain ⟨h13, hg⟩ := zck hg
            refine ziald hx hb hK hP 6 0 rfl rfl (j := ((((241 * (1 - x1)) + v11) + x3).toNatClampNeg)) h13 rfl dX11_letter_91 ?_
            exact hret (v9.2.2.2.2.2.2.1 ((((241 * (1 - x1)) + v11) + x3).toNatClampNeg)) v9.1 v9.2.1 v9.2.2.1 a_M_refused v9.2.2.2.1 v9.2.2.2.2.1 v9.2.2.2.2.2.1 v9.2.2.2.2.2.2.1 v9.2.2.2.2.2.2.2.1 v9.2.2.2.2.2.2.2.2.1 v9.2.2.2.2.2.2.2.2.2 hg _ _ _ _ hP hS dX11_letter_92
          · have hg := zn hg h68
            exact B71 v9.1 v9.2.1 v9.2.2.1 a_M_refused v9.2.2.2.1 v9.2.2.2.2.1 v9.2.2.2.2.2.1 v9.2.2.2.2.2.2.1 v9.2.2.2.2.2.2.2.1 v9.2.2.2.2.2.2.2.2.1 v9.2.2.2.2.2.2.2.2.2 _ _ _ (lv_sub hl [] rfl) hP hD hS hg
      · have hg := zp hg h31
        exact B34 v_M_acts v_M_waits v_M_place a_M_refused a_M_held a_M_wait a_M_act a_M_clocks a_M_counts a_M_talking a_M_heap _ _ _ (lv_sub hl [0] rfl) hP hD hS hg

/-! SpokenClockModel.turns(I)I -/
abbrev ws_X11_turns (cI cJ cZ cA : ClassId) (q_M q_M_now q_M_held q_M_wait q_M_act q_M_clocks q_M_counts q_M_talking q_M_heap q_M_refused : Nat) (u_M_images : Value) (u_M_kept : Value) (u_M_text : Value) (u_M_size : Value) (u_M_sign : Value) (u_M_manyAbove : Value) (u_M_manyBelow : Value) (u_M_above : Value) (u_M_below : Value) (u_M_at : Value) (u_M_begin : Value) (u_M_kind : Value) (u_M_value : Value) (u_M_read : Value) (u_M_most : Value) (u_M_hasA : Value) (u_M_hasB : Value) (u_M_talks : Value) (u_M_big : Value) (v_M_acts : Int32) (v_M_waits : Int32) (v_M_place : Int32) (a_M_now : Nat → Int32) (a_M_held : Nat → Int32) (a_M_wait : Nat → Int32) (a_M_act : Nat → Int32) (a_M_clocks : Nat → Int32) (a_M_counts : Nat → Int32) (a_M_talking : Nat → Int32) (a_M_heap : Nat → Int64) (a_M_refused : Nat → Int32) : va_W := [(q_M, .inr (11, [.ref q_M_now, u_M_images, u_M_kept, u_M_text, u_M_size, u_M_sign, u_M_manyAbove, u_M_manyBelow, u_M_above, u_M_below, .ref q_M_refused, u_M_at, u_M_begin, u_M_kind, u_M_value, u_M_read, .int v_M_acts, .ref q_M_act, .int v_M_waits, .ref q_M_wait, .ref q_M_held, .int v_M_place, .ref q_M_heap, .ref q_M_clocks, .ref q_M_counts, .ref q_M_talking, u_M_most, u_M_hasA, u_M_hasB, u_M_talks, u_M_big])), (q_M_now, .inl (cI, 155, .inl a_M_now)), (q_M_held, .inl (cZ, 9, .inl a_M_held)), (q_M_wait, .inl (cI, 80, .inl a_M_wait)), (q_M_act, .inl (cI, 80, .inl a_M_act)), (q_M_clocks, .inl (cI, 482, .inl a_M_clocks)), (q_M_counts, .inl (cI, 1200, .inl a_M_counts)), (q_M_talking, .inl (cZ, 1200, .inl a_M_talking)), (q_M_heap, .inl (cJ, 41, .inr (.inl a_M_heap))), (q_M_refused, .inl (cI, 3, .inl a_M_refused))]
abbrev rm_X11_turns : Room := { frames := 5, cells := 0, slots := 0, locals := 120 }
def g_X11_turns_90b (a_M_now : Nat → Int32) (x1 : Int32) (k90 : Int32 → Int32 → Int32 → Int32 → Int32 → (Nat → Int32) → (Nat → Int32) → (Nat → Int32) → (Nat → Int32) → (Nat → Int32) → (Nat → Int32) → (Nat → Int64) → (Nat → Int32) → Option (Int32 × Int32 × Int32 × Int32 × (Nat → Int32) × (Nat → Int32) × (Nat → Int32) × (Nat → Int32) × (Nat → Int32) × (Nat → Int32) × (Nat → Int64) × (Nat → Int32))) (x2 : Int32) (x3 : Int32) (v_M_acts : Int32) (v_M_waits : Int32) (v_M_place : Int32) (a_M_held : Nat → Int32) (a_M_wait : Nat → Int32) (a_M_act : Nat → Int32) (a_M_clocks : Nat → Int32) (a_M_counts : Nat → Int32) (a_M_talking : Nat → Int32) (a_M_heap : Nat → Int64) (a_M_refused : Nat → Int32) : Option (Int32 × Int32 × Int32 × Int32 × (Nat → Int32) × (Nat → Int32) × (Nat → Int32) × (Nat → Int32) × (Nat → Int32) × (Nat → Int32) × (Nat → Int64) × (Nat → Int32)) :=
  if x2 ≤ x3 then (
    some ((-1), v_M_acts, v_M_waits, v_M_place, a_M_held, a_M_wait, a_M_act, a_M_clocks, a_M_counts, a_M_talking, a_M_heap, a_M_refused)
  ) else (
    if x1 = 0 then none else
    if (a_M_now 3) = 0 then none else
    if ((240 * ((x3 / x1) - (x3 / x1) / (a_M_now 3) * (a_M_now 3))) + x3) < 0 ∨ 1200 ≤ ((240 * ((x3 / x1) - (x3 / x1) / (a_M_now 3) * (a_M_now 3))) + x3).toNatClampNeg then none else
    if (a_M_counts (((240 * ((x3 / x1) - (x3 / x1) / (a_M_now 3) * (a_M_now 3))) + x3).toNatClampNeg)) = 0 then (
      some (x3, v_M_acts, v_M_waits, v_M_place, a_M_held, a_M_wait, a_M_act, a_M_clocks, a_M_counts, a_M_talking, a_M_heap, a_M_refused)
    ) else (
      k90 x2 (x3 + 1) v_M_acts v_M_waits v_M_place a_M_held a_M_wait a_M_act a_M_clocks a_M_counts a_M_talking a_M_heap a_M_refused
    )
  )
def g_X11_turns_90 (a_M_now : Nat → Int32) (x1 : Int32) : Nat → Int32 → Int32 → Int32 → Int32 → Int32 → (Nat → Int32) → (Nat → Int32) → (Nat → Int32) → (Nat → Int32) → (Nat → Int32) → (Nat → Int32) → (Nat → Int64) → (Nat → Int32) → Option (Int32 × Int32 × Int32 × Int32 × (Nat → Int32) × (Nat → Int32) × (Nat → Int32) × (Nat → Int32) × (Nat → Int32) × (Nat → Int32) × (Nat → Int64) × (Nat → Int32))
  | 0, _, _, _, _, _, _, _, _, _, _, _, _, _ => none
  | n + 1, x2, x3, v_M_acts, v_M_waits, v_M_place, a_M_held, a_M_wait, a_M_act, a_M_clocks, a_M_counts, a_M_talking, a_M_heap, a_M_refused => g_X11_turns_90b a_M_now x1 (g_X11_turns_90 a_M_now x1 n) x2 x3 v_M_acts v_M_waits v_M_place a_M_held a_M_wait a_M_act a_M_clocks a_M_counts a_M_talking a_M_heap a_M_refused
def g_X11_turns_81 (a_M_now : Nat → Int32) (x1 : Int32) (k45 : Int32 → Int32 → Int32 → Int32 → Int32 → (Nat → Int32) → (Nat → Int32) → (Nat → Int32) → (Nat → Int32) → (Nat → Int32) → (Nat → Int32) → (Nat → Int64) → (Nat → Int32) → Option (Int32 × Int32 × Int32 × Int32 × (Nat → Int32) × (Nat → Int32) × (Nat → Int32) × (Nat → Int32) × (Nat → Int32) × (Nat → Int32) × (Nat → Int64) × (Nat → Int32))) (x3 : Int32) (t0 : Int32) (v_M_acts : Int32) (v_M_waits : Int32) (v_M_place : Int32) (a_M_held : Nat → Int32) (a_M_wait : Nat → Int32) (a_M_act : Nat → Int32) (a_M_clocks : Nat → Int32) (a_M_counts : Nat → Int32) (a_M_talking : Nat → Int32) (a_M_heap : Nat → Int64) (a_M_refused : Nat → Int32) : Option (Int32 × Int32 × Int32 × Int32 × (Nat → Int32) × (Nat → Int32) × (Nat → Int32) × (Nat → Int32) × (Nat → Int32) × (Nat → Int32) × (Nat → Int64) × (Nat → Int32)) :=
  k45 t0 (x3 + 1) v_M_acts v_M_waits v_M_place a_M_held a_M_wait a_M_act a_M_clocks a_M_counts a_M_talking a_M_heap a_M_refused
def g_X11_turns_45b (a_M_now : Nat → Int32) (x1 : Int32) (k45 : Int32 → Int32 → Int32 → Int32 → Int32 → (Nat → Int32) → (Nat → Int32) → (Nat → Int32) → (Nat → Int32) → (Nat → Int32) → (Nat → Int32) → (Nat → Int64) → (Nat → Int32) → Option (Int32 × Int32 × Int32 × Int32 × (Nat → Int32) × (Nat → Int32) × (Nat → Int32) × (Nat → Int32) × (Nat → Int32) × (Nat → Int32) × (Nat → Int64) × (Nat → Int32))) (x2 : Int32) (x3 : Int32) (v_M_acts : Int32) (v_M_waits : Int32) (v_M_place : Int32) (a_M_held : Nat → Int32) (a_M_wait : Nat → Int32) (a_M_act : Nat → Int32) (a_M_clocks : Nat → Int32) (a_M_counts : Nat → Int32) (a_M_talking : Nat → Int32) (a_M_heap : Nat → Int64) (a_M_refused : Nat → Int32) : Option (Int32 × Int32 × Int32 × Int32 × (Nat → Int32) × (Nat → Int32) × (Nat → Int32) × (Nat → Int32) × (Nat → Int32) × (Nat → Int32) × (Nat → Int64) × (Nat → Int32)) :=
  if (a_M_now 4) ≤ x3 then (
    g_X11_turns_90 a_M_now x1 zF x2 0 v_M_acts v_M_waits v_M_place a_M_held a_M_wait a_M_act a_M_clocks a_M_counts a_M_talking a_M_heap a_M_refused
  ) else (
    if (55 + x3) < 0 ∨ 155 ≤ (55 + x3).toNatClampNeg then none else
    if (a_M_now ((55 + x3).toNatClampNeg)) ≤ x2 then (
      g_X11_turns_81 a_M_now x1 k45 x3 x2 v_M_acts v_M_waits v_M_place a_M_held a_M_wait a_M_act a_M_clocks a_M_counts a_M_talking a_M_heap a_M_refused
    ) else (
      if (55 + x3) < 0 ∨ 155 ≤ (55 + x3).toNatClampNeg then none else
      g_X11_turns_81 a_M_now x1 k45 x3 (a_M_now ((55 + x3).toNatClampNeg)) v_M_acts v_M_waits v_M_place a_M_held a_M_wait a_M_act a_M_clocks a_M_counts a_M_talking a_M_heap a_M_refused
    )
  )
def g_X11_turns_45 (a_M_now : Nat → Int32) (x1 : Int32) : Nat → Int32 → Int32 → Int32 → Int32 → Int32 → (Nat → Int32) → (Nat → Int32) → (Nat → Int32) → (Nat → Int32) → (Nat → Int32) → (Nat → Int32) → (Nat → Int64) → (Nat → Int32) → Option (Int32 × Int32 × Int32 × Int32 × (Nat → Int32) × (Nat → Int32) × (Nat → Int32) × (Nat → Int32) × (Nat → Int32) × (Nat → Int32) × (Nat → Int64) × (Nat → Int32))
  | 0, _, _, _, _, _, _, _, _, _, _, _, _, _ => none
  | n + 1, x2, x3, v_M_acts, v_M_waits, v_M_place, a_M_held, a_M_wait, a_M_act, a_M_clocks, a_M_counts, a_M_talking, a_M_heap, a_M_refused => g_X11_turns_45b a_M_now x1 (g_X11_turns_45 a_M_now x1 n) x2 x3 v_M_acts v_M_waits v_M_place a_M_held a_M_wait a_M_act a_M_clocks a_M_counts a_M_talking a_M_heap a_M_refused
def g_X11_turns (a_M_now : Nat → Int32) (x1 : Int32) (v_M_acts : Int32) (v_M_waits : Int32) (v_M_place : Int32) (a_M_held : Nat → Int32) (a_M_wait : Nat → Int32) (a_M_act : Nat → Int32) (a_M_clocks : Nat → Int32) (a_M_counts : Nat → Int32) (a_M_talking : Nat → Int32) (a_M_heap : Nat → Int64) (a_M_refused : Nat → Int32) : Option (Int32 × Int32 × Int32 × Int32 × (Nat → Int32) × (Nat → Int32) × (Nat → Int32) × (Nat → Int32) × (Nat → Int32) × (Nat → Int32) × (Nat → Int64) × (Nat → Int32)) :=
  (g_X11_in x1.toInt64 (1 : Int64) (60 : Int64)).bind fun v1 =>
  if v1 = 0 then (
    (g_X11_refuse (-2) a_M_refused).bind fun v12 =>
    some (v12.1, v_M_acts, v_M_waits, v_M_place, a_M_held, a_M_wait, a_M_act, a_M_clocks, a_M_counts, a_M_talking, a_M_heap, v12.2)
  ) else (
    if (a_M_now 3) = 0 then (
      (g_X11_refuse (-3) a_M_refused).bind fun v10 =>
      some (v10.1, v_M_acts, v_M_waits, v_M_place, a_M_held, a_M_wait, a_M_act, a_M_clocks, a_M_counts, a_M_talking, a_M_heap, v10.2)
    ) else (
      (g_X11_winds a_M_now 31 v_M_acts v_M_waits v_M_place a_M_held a_M_wait a_M_act a_M_clocks a_M_counts a_M_talking a_M_heap).bind fun v3 =>
      g_X11_turns_45 a_M_now x1 zF 0 0 v3.1 v3.2.1 v3.2.2.1 v3.2.2.2.1 v3.2.2.2.2.1 v3.2.2.2.2.2.1 v3.2.2.2.2.2.2.1 v3.2.2.2.2.2.2.2.1 v3.2.2.2.2.2.2.2.2.1 v3.2.2.2.2.2.2.2.2.2 a_M_refused
    )
  )
theorem hd_X11_turns : yX11_turns.cls = RX11 ∧ yX11_turns.cls ≠ "java/lang/invoke/MethodHandle" ∧ yX11_turns.cls ≠ "java/lang/invoke/VarHandle" ∧ (parseMethodDescriptor yX11_turns.desc).map (fun d => d.parameters.length) = some 1 := by decide +kernel
set_option maxHeartbeats 4000000 in
set_option maxRecDepth 100000 in
theorem c_X11_turns (l : Launch) (D : va_G) (cI cJ cZ cA : ClassId) (ga : Nat → Nat) (q_M q_M_now q_M_held q_M_wait q_M_act q_M_clocks q_M_counts q_M_talking q_M_heap q_M_refused : Nat) (u_M_images : Value) (u_M_kept : Value) (u_M_text : Value) (u_M_size : Value) (u_M_sign : Value) (u_M_manyAbove : Value) (u_M_manyBelow : Value) (u_M_above : Value) (u_M_below : Value) (u_M_at : Value) (u_M_begin : Value) (u_M_kind : Value) (u_M_value : Value) (u_M_read : Value) (u_M_most : Value) (u_M_hasA : Value) (u_M_hasB : Value) (u_M_talks : Value) (u_M_big : Value) (v_M_acts : Int32) (v_M_waits : Int32) (v_M_place : Int32) (a_M_now : Nat → Int32) (a_M_held : Nat → Int32) (a_M_wait : Nat → Int32) (a_M_act : Nat → Int32) (a_M_clocks : Nat → Int32) (a_M_counts : Nat → Int32) (a_M_talking : Nat → Int32) (a_M_heap : Nat → Int64) (a_M_refused : Nat → Int32) (x1 : Int32) (o : Int32 × Int32 × Int32 × Int32 × (Nat → Int32) × (Nat → Int32) × (Nat → Int32) × (Nat → Int32) × (Nat → Int32) × (Nat → Int32) × (Nat → Int64) × (Nat → Int32)) (hg : g_X11_turns a_M_now x1 v_M_acts v_M_waits v_M_place a_M_held a_M_wait a_M_act a_M_clocks a_M_counts a_M_talking a_M_heap a_M_refused = some o) : zM l yX11_turns (Cond.code yX11_turns cX11_turns 4 (some .int) :: wsL_law) rm_X11_turns D (zTy cI cJ cZ cA) ga [.ref q_M, .int x1] (ws_X11_turns cI cJ cZ cA q_M q_M_now q_M_held q_M_wait q_M_act q_M_clocks q_M_counts q_M_talking q_M_heap q_M_refused u_M_images u_M_kept u_M_text u_M_size u_M_sign u_M_manyAbove u_M_manyBelow u_M_above u_M_below u_M_at u_M_begin u_M_kind u_M_value u_M_read u_M_most u_M_hasA u_M_hasB u_M_talks u_M_big v_M_acts v_M_waits v_M_place a_M_now a_M_held a_M_wait a_M_act a_M_clocks a_M_counts a_M_talking a_M_heap a_M_refused) (ws_X11_turns cI cJ cZ cA q_M q_M_now q_M_held q_M_wait q_M_act q_M_clocks q_M_counts q_M_talking q_M_heap q_M_refused u_M_images u_M_kept u_M_text u_M_size u_M_sign u_M_manyAbove u_M_manyBelow u_M_above u_M_below u_M_at u_M_begin u_M_kind u_M_value u_M_read u_M_most u_M_hasA u_M_hasB u_M_talks u_M_big o.2.1 o.2.2.1 o.2.2.2.1 a_M_now o.2.2.2.2.1 o.2.2.2.2.2.1 o.2.2.2.2.2.2.1 o.2.2.2.2.2.2.2.1 o.2.2.2.2.2.2.2.2.1 o.2.2.2.2.2.2.2.2.2.1 o.2.2.2.2.2.2.2.2.2.2.1 o.2.2.2.2.2.2.2.2.2.2.2) (some (.int o.1)) := by
  refine zenterI (own := RX11) (by decide) rfl rfl (Nat.le_of_ble_eq_true rfl) ?_
  intro p e s m args below meth c A ls Q S hA hK hG hl hP hD hS hret0
  have hx := S.1
  have hb := S.2.1
  have ht : ∀ w, w ∈ wsL_law → w.before args s = true := fun w h => S.2.2.2.2 w (List.mem_cons_of_mem _ h)
  have hret : ∀ (r9 : Int32) (v_M_acts : Int32) (v_M_waits : Int32) (v_M_place : Int32) (a_M_held : Nat → Int32) (a_M_wait : Nat → Int32) (a_M_act : Nat → Int32) (a_M_clocks : Nat → Int32) (a_M_counts : Nat → Int32) (a_M_talking : Nat → Int32) (a_M_heap : Nat → Int64) (a_M_refused : Nat → Int32), (some (r9, v_M_acts, v_M_waits, v_M_place, a_M_held, a_M_wait, a_M_act, a_M_clocks, a_M_counts, a_M_talking, a_M_heap, a_M_refused) : Option (Int32 × Int32 × Int32 × Int32 × (Nat → Int32) × (Nat → Int32) × (Nat → Int32) × (Nat → Int32) × (Nat → Int32) × (Nat → Int32) × (Nat → Int64) × (Nat → Int32))) = some o → ∀ (H : Heap) (locs : List Loc) (pc : Nat) (ls : Array Slot), va_P D vwCl (ws_X11_turns cI cJ cZ cA q_M q_M_now q_M_held q_M_wait q_M_act q_M_clocks q_M_counts q_M_talking q_M_heap q_M_refused u_M_images u_M_kept u_M_text u_M_size u_M_sign u_M_manyAbove u_M_manyBelow u_M_above u_M_below u_M_at u_M_begin u_M_kind u_M_value u_M_read u_M_most u_M_hasA u_M_hasB u_M_talks u_M_big v_M_acts v_M_waits v_M_place a_M_now a_M_held a_M_wait a_M_act a_M_clocks a_M_counts a_M_talking a_M_heap a_M_refused) H → va_S A s.heap H locs → decode cX11_turns pc = .ok (.ireturn, 1) → W p l e rm_X11_turns s m args below meth c H locs 0 0 Q (F0 m pc ls [.int r9]) := by
    intro r9 v_M_acts v_M_waits v_M_place a_M_held a_M_wait a_M_act a_M_clocks a_M_counts a_M_talking a_M_heap a_M_refused he; cases he; exact hret0
  have hl : lv_has ls 4 [(0, .ref q_M), (1, .int x1)] := hl
  have B90 : ∀  (n : Nat) (x2 : Int32) (x3 : Int32) (v_M_acts : Int32) (v_M_waits : Int32) (v_M_place : Int32) (a_M_held : Nat → Int32) (a_M_wait : Nat → Int32) (a_M_act : Nat → Int32) (a_M_clocks : Nat → Int32) (a_M_counts : Nat → Int32) (a_M_talking : Nat → Int32) (a_M_heap : Nat → Int64) (a_M_refused : Nat → Int32) (H : Heap) (locs : List Loc) (ls : Array Slot) (hl : lv_has ls 4 [(0, .ref q_M), (1, .int x1), (2, .int x2), (3, .int x3)]) (hP : va_P D vwCl (ws_X11_turns cI cJ cZ cA q_M q_M_now q_M_held q_M_wait q_M_act q_M_clocks q_M_counts q_M_talking q_M_heap q_M_refused u_M_images u_M_kept u_M_text u_M_size u_M_sign u_M_manyAbove u_M_manyBelow u_M_above u_M_below u_M_at u_M_begin u_M_kind u_M_value u_M_read u_M_most u_M_hasA u_M_hasB u_M_talks u_M_big v_M_acts v_M_waits v_M_place a_M_now a_M_held a_M_wait a_M_act a_M_clocks a_M_counts a_M_talking a_M_heap a_M_refused) H) (hD : va_D A (ws_X11_turns cI cJ cZ cA q_M q_M_now q_M_held q_M_wait q_M_act q_M_clocks q_M_counts q_M_talking q_M_heap q_M_refused u_M_images u_M_kept u_M_text u_M_size u_M_sign u_M_manyAbove u_M_manyBelow u_M_above u_M_below u_M_at u_M_begin u_M_kind u_M_value u_M_read u_M_most u_M_hasA u_M_hasB u_M_talks u_M_big v_M_acts v_M_waits v_M_place a_M_now a_M_held a_M_wait a_M_act a_M_clocks a_M_counts a_M_talking a_M_heap a_M_refused)) (hS : va_S A s.heap H locs), g_X11_turns_90 a_M_now x1 n x2 x3 v_M_acts v_M_waits v_M_place a_M_held a_M_wait a_M_act a_M_clocks a_M_counts a_M_talking a_M_heap a_M_refused = some o → W p l e rm_X11_turns s m args below meth c H locs 0 0 Q (F0 m 90 ls []) := by
    intro  n
    induction n with
    | zero => intro x2 x3 v_M_acts v_M_waits v_M_place a_M_held a_M_wait a_M_act a_M_clocks a_M_counts a_M_talking a_M_heap a_M_refused H locs ls hl hP hD hS hg; exact nomatch (show (none : Option (Int32 × Int32 × Int32 × Int32 × (Nat → Int32) × (Nat → Int32) × (Nat → Int32) × (Nat → Int32) × (Nat → Int32) × (Nat → Int32) × (Nat → Int64) × (Nat → Int32))) = some o from hg)
    | succ n ih =>
      intro x2 x3 v_M_acts v_M_waits v_M_place a_M_held a_M_wait a_M_act a_M_clocks a_M_counts a_M_talking a_M_heap a_M_refused H locs ls hl hP hD hS hg
      have hg : g_X11_turns_90b a_M_now x1 (g_X11_turns_90 a_M_now x1 n) x2 x3 v_M_acts v_M_waits v_M_place a_M_held a_M_wait a_M_act a_M_clocks a_M_counts a_M_talking a_M_heap a_M_refused = some o := hg
      refine lv_iload_n hx hb dX11_turns_90 rfl (lv_at hl 3 rfl) ?_
      refine lv_iload_n hx hb dX11_turns_91 rfl (lv_at hl 2 rfl) ?_
      refine lv_icmp_ge (tgt := 127) hx hb dX11_turns_92 (by decide) (fun h92 => ?_) (fun h92 => ?_)
      · have hg := zp hg h92
        refine lv_iconst (v := (-1)) hx hb dX11_turns_127 (by decide) ?_
        exact hret (-1) v_M_acts v_M_waits v_M_place a_M_held a_M_wait a_M_act a_M_clocks a_M_counts a_M_talking a_M_heap a_M_refused hg _ _ _ _ hP hS dX11_turns_128
      · have hg := zn hg h92
        refine lv_aload_n hx hb dX11_turns_95 rfl (lv_at hl 0 rfl) ?_
        refine zget (C := RX11) (T := TX11) (N := 31) S hK hP 0 rfl rfl 24 (Nat.le_of_ble_eq_true rfl) zf_11 zw_163 rfl dX11_turns_96 ?_
        refine lv_sipush (v := 240) hx hb dX11_turns_99 (by decide) ?_
        refine lv_iload_n hx hb dX11_turns_102 rfl (lv_at hl 3 rfl) ?_
        refine lv_iload_n hx hb dX11_turns_103 rfl (lv_at hl 1 rfl) ?_
        obtain ⟨h5, hg⟩ := zck hg
        refine lv_idiv hx hb dX11_turns_104 h5 ?_
        refine lv_aload_n hx hb dX11_turns_105 rfl (lv_at hl 0 rfl) ?_
        refine zget (C := RX11) (T := TX11) (N := 31) S hK hP 0 rfl rfl 0 (Nat.le_of_ble_eq_true rfl) zf_11 zw_149 rfl dX11_turns_106 ?_
        refine lv_iconst (v := 3) hx hb dX11_turns_109 (by decide) ?_
        refine ziald hx hb hK hP 1 0 rfl rfl (j := 3) (zin (by decide)) (by decide) dX11_turns_110 ?_
        obtain ⟨h6, hg⟩ := zck hg
        refine lv_irem hx hb dX11_turns_111 h6 ?_
        refine lv_imul hx hb dX11_turns_112 ?_
        refine lv_iload_n hx hb dX11_turns_113 rfl (lv_at hl 3 rfl) ?_
        refine lv_iadd hx hb dX11_turns_114 ?_
        obtain ⟨h7, hg⟩ := zck hg
        refine ziald hx hb hK hP 6 0 rfl rfl (j := (((240 * ((x3 / x1) - (x3 / x1) / (a_M_now 3) * (a_M_now 3))) + x3).toNatClampNeg)) h7 rfl dX11_turns_115 ?_
        refine lv_if_ne (tgt := 121) hx hb dX11_turns_116 (by decide) (fun h116 => ?_) (fun h116 => ?_)
        · have hg := zn hg h116
          refine lv_iinc (k := 3) (v := x3 + 1) (lv' := [(3, .int (x3 + 1)), (0, .ref q_M), (1, .int x1), (2, .int x2)]) hx hb dX11_turns_121 hl rfl (zinc (by decide)) (by decide) rfl (fun ls hl => ?_)
          refine lv_goto (tgt := 90) hx hb dX11_turns_124 (by decide) ?_
          exact ih x2 (x3 + 1) v_M_acts v_M_waits v_M_place a_M_held a_M_wait a_M_act a_M_clocks a_M_counts a_M_talking a_M_heap a_M_refused _ _ _ (lv_sub hl [1, 2, 3, 0] rfl) hP hD hS hg
        · have hg := zp hg h116
          refine lv_iload_n hx hb dX11_turns_119 rfl (lv_at hl 3 rfl) ?_
          exact hret x3 v_M_acts v_M_waits v_M_place a_M_held a_M_wait a_M_act a_M_clocks a_M_counts a_M_talking a_M_heap a_M_refused hg _ _ _ _ hP hS dX11_turns_120
  have B81 : ∀ (k45 : Int32 → Int32 → Int32 → Int32 → Int32 → (Nat → Int32) → (Nat → Int32) → (Nat → Int32) → (Nat → Int32) → (Nat → Int32) → (Nat → Int32) → (Nat → Int64) → (Nat → Int32) → Option (Int32 × Int32 × Int32 × Int32 × (Nat → Int32) × (Nat → Int32) × (Nat → Int32) × (Nat → Int32) × (Nat → Int32) × (Nat → Int32) × (Nat → Int64) × (Nat → Int32))) (hk45 : ∀ (x2 : Int32) (x3 : Int32) (v_M_acts : Int32) (v_M_waits : Int32) (v_M_place : Int32) (a_M_held : Nat → Int32) (a_M_wait : Nat → Int32) (a_M_act : Nat → Int32) (a_M_clocks : Nat → Int32) (a_M_counts : Nat → Int32) (a_M_talking : Nat → Int32) (a_M_heap : Nat → Int64) (a_M_refused : Nat → Int32) (H : Heap) (locs : List Loc) (ls : Array Slot) (hl : lv_has ls 4 [(0, .ref q_M), (1, .int x1), (2, .int x2), (3, .int x3)]) (hP : va_P D vwCl (ws_X11_turns cI cJ cZ cA q_M q_M_now q_M_held q_M_wait q_M_act q_M_clocks q_M_counts q_M_talking q_M_heap q_M_refused u_M_images u_M_kept u_M_text u_M_size u_M_sign u_M_manyAbove u_M_manyBelow u_M_above u_M_below u_M_at u_M_begin u_M_kind u_M_value u_M_read u_M_most u_M_hasA u_M_hasB u_M_talks u_M_big v_M_acts v_M_waits v_M_place a_M_now a_M_held a_M_wait a_M_act a_M_clocks a_M_counts a_M_talking a_M_heap a_M_refused) H) (hD : va_D A (ws_X11_turns cI cJ cZ cA q_M q_M_now q_M_held q_M_wait q_M_act q_M_clocks q_M_counts q_M_talking q_M_heap q_M_refused u_M_images u_M_kept u_M_text u_M_size u_M_sign u_M_manyAbove u_M_manyBelow u_M_above u_M_below u_M_at u_M_begin u_M_kind u_M_value u_M_read u_M_most u_M_hasA u_M_hasB u_M_talks u_M_big v_M_acts v_M_waits v_M_place a_M_now a_M_held a_M_wait a_M_act a_M_clocks a_M_counts a_M_talking a_M_heap a_M_refused)) (hS : va_S A s.heap H locs), k45 x2 x3 v_M_acts v_M_waits v_M_place a_M_held a_M_wait a_M_act a_M_clocks a_M_counts a_M_talking a_M_heap a_M_refused = some o → W p l e rm_X11_turns s m args below meth c H locs 0 0 Q (F0 m 45 ls [])) (x3 : Int32) (t0 : Int32) (v_M_acts : Int32) (v_M_waits : Int32) (v_M_place : Int32) (a_M_held : Nat → Int32) (a_M_wait : Nat → Int32) (a_M_act : Nat → Int32) (a_M_clocks : Nat → Int32) (a_M_counts : Nat → Int32) (a_M_talking : Nat → Int32) (a_M_heap : Nat → Int64) (a_M_refused : Nat → Int32) (H : Heap) (locs : List Loc) (ls : Array Slot) (hl : lv_has ls 4 [(0, .ref q_M), (1, .int x1), (3, .int x3)]) (hP : va_P D vwCl (ws_X11_turns cI cJ cZ cA q_M q_M_now q_M_held q_M_wait q_M_act q_M_clocks q_M_counts q_M_talking q_M_heap q_M_refused u_M_images u_M_kept u_M_text u_M_size u_M_sign u_M_manyAbove u_M_manyBelow u_M_above u_M_below u_M_at u_M_begin u_M_kind u_M_value u_M_read u_M_most u_M_hasA u_M_hasB u_M_talks u_M_big v_M_acts v_M_waits v_M_place a_M_now a_M_held a_M_wait a_M_act a_M_clocks a_M_counts a_M_talking a_M_heap a_M_refused) H) (hD : va_D A (ws_X11_turns cI cJ cZ cA q_M q_M_now q_M_held q_M_wait q_M_act q_M_clocks q_M_counts q_M_talking q_M_heap q_M_refused u_M_images u_M_kept u_M_text u_M_size u_M_sign u_M_manyAbove u_M_manyBelow u_M_above u_M_below u_M_at u_M_begin u_M_kind u_M_value u_M_read u_M_most u_M_hasA u_M_hasB u_M_talks u_M_big v_M_acts v_M_waits v_M_place a_M_now a_M_held a_M_wait a_M_act a_M_clocks a_M_counts a_M_talking a_M_heap a_M_refused)) (hS : va_S A s.heap H locs), g_X11_turns_81 a_M_now x1 k45 x3 t0 v_M_acts v_M_waits v_M_place a_M_held a_M_wait a_M_act a_M_clocks a_M_counts a_M_talking a_M_heap a_M_refused = some o → W p l e rm_X11_turns s m args below meth c H locs 0 0 Q (F0 m 81 ls [.int t0]) := by
    intro k45 hk45 x3 t0 v_M_acts v_M_waits v_M_place a_M_held a_M_wait a_M_act a_M_clocks a_M_counts a_M_talking a_M_heap a_M_refused H locs ls hl hP hD hS hg
    refine lv_istore_n (lv' := [(2, .int t0), (0, .ref q_M), (1, .int x1), (3, .int x3)]) hx hb dX11_turns_81 rfl hl (by decide) rfl (fun ls hl => ?_)
    refine lv_iinc (k := 3) (v := x3 + 1) (lv' := [(3, .int (x3 + 1)), (2, .int t0), (0, .ref q_M), (1, .int x1)]) hx hb dX11_turns_82 hl rfl (zinc (by decide)) (by decide) rfl (fun ls hl => ?_)
    refine lv_goto (tgt := 45) hx hb dX11_turns_85 (by decide) ?_
    exact hk45 t0 (x3 + 1) v_M_acts v_M_waits v_M_place a_M_held a_M_wait a_M_act a_M_clocks a_M_counts a_M_talking a_M_heap a_M_refused _ _ _ (lv_sub hl [2, 3, 1, 0] rfl) hP hD hS hg
  have B45 : ∀  (n : Nat) (x2 : Int32) (x3 : Int32) (v_M_acts : Int32) (v_M_waits : Int32) (v_M_place : Int32) (a_M_held : Nat → Int32) (a_M_wait : Nat → Int32) (a_M_act : Nat → Int32) (a_M_clocks : Nat → Int32) (a_M_counts : Nat → Int32) (a_M_talking : Nat → Int32) (a_M_heap : Nat → Int64) (a_M_refused : Nat → Int32) (H : Heap) (locs : List Loc) (ls : Array Slot) (hl : lv_has ls 4 [(0, .ref q_M), (1, .int x1), (2, .int x2), (3, .int x3)]) (hP : va_P D vwCl (ws_X11_turns cI cJ cZ cA q_M q_M_now q_M_held q_M_wait q_M_act q_M_clocks q_M_counts q_M_talking q_M_heap q_M_refused u_M_images u_M_kept u_M_text u_M_size u_M_sign u_M_manyAbove u_M_manyBelow u_M_above u_M_below u_M_at u_M_begin u_M_kind u_M_value u_M_read u_M_most u_M_hasA u_M_hasB u_M_talks u_M_big v_M_acts v_M_waits v_M_place a_M_now a_M_held a_M_wait a_M_act a_M_clocks a_M_counts a_M_talking a_M_heap a_M_refused) H) (hD : va_D A (ws_X11_turns cI cJ cZ cA q_M q_M_now q_M_held q_M_wait q_M_act q_M_clocks q_M_counts q_M_talking q_M_heap q_M_refused u_M_images u_M_kept u_M_text u_M_size u_M_sign u_M_manyAbove u_M_manyBelow u_M_above u_M_below u_M_at u_M_begin u_M_kind u_M_value u_M_read u_M_most u_M_hasA u_M_hasB u_M_talks u_M_big v_M_acts v_M_waits v_M_place a_M_now a_M_held a_M_wait a_M_act a_M_clocks a_M_counts a_M_talking a_M_heap a_M_refused)) (hS : va_S A s.heap H locs), g_X11_turns_45 a_M_now x1 n x2 x3 v_M_acts v_M_waits v_M_place a_M_held a_M_wait a_M_act a_M_clocks a_M_counts a_M_talking a_M_heap a_M_refused = some o → W p l e rm_X11_turns s m args below meth c H locs 0 0 Q (F0 m 45 ls []) := by
    intro  n
    induction n with
    | zero => intro x2 x3 v_M_acts v_M_waits v_M_place a_M_held a_M_wait a_M_act a_M_clocks a_M_counts a_M_talking a_M_heap a_M_refused H locs ls hl hP hD hS hg; exact nomatch (show (none : Option (Int32 × Int32 × Int32 × Int32 × (Nat → Int32) × (Nat → Int32) × (Nat → Int32) × (Nat → Int32) × (Nat → Int32) × (Nat → Int32) × (Nat → Int64) × (Nat → Int32))) = some o from hg)
    | succ n ih =>
      intro x2 x3 v_M_acts v_M_waits v_M_place a_M_held a_M_wait a_M_act a_M_clocks a_M_counts a_M_talking a_M_heap a_M_refused H locs ls hl hP hD hS hg
      have hg : g_X11_turns_45b a_M_now x1 (g_X11_turns_45 a_M_now x1 n) x2 x3 v_M_acts v_M_waits v_M_place a_M_held a_M_wait a_M_act a_M_clocks a_M_counts a_M_talking a_M_heap a_M_refused = some o := hg
      refine lv_iload_n hx hb dX11_turns_45 rfl (lv_at hl 3 rfl) ?_
      refine lv_aload_n hx hb dX11_turns_46 rfl (lv_at hl 0 rfl) ?_
      refine zget (C := RX11) (T := TX11) (N := 31) S hK hP 0 rfl rfl 0 (Nat.le_of_ble_eq_true rfl) zf_11 zw_149 rfl dX11_turns_47 ?_
      refine lv_iconst (v := 4) hx hb dX11_turns_50 (by decide) ?_
      refine ziald hx hb hK hP 1 0 rfl rfl (j := 4) (zin (by decide)) (by decide) dX11_turns_51 ?_
      refine lv_icmp_ge (tgt := 88) hx hb dX11_turns_52 (by decide) (fun h52 => ?_) (fun h52 => ?_)
      · have hg := zp hg h52
        refine lv_iconst (v := 0) hx hb dX11_turns_88 (by decide) ?_
        refine lv_istore_n (lv' := [(3, .int 0), (0, .ref q_M), (1, .int x1), (2, .int x2)]) hx hb dX11_turns_89 rfl hl (by decide) rfl (fun ls hl => ?_)
        exact B90 zF x2 0 v_M_acts v_M_waits v_M_place a_M_held a_M_wait a_M_act a_M_clocks a_M_counts a_M_talking a_M_heap a_M_refused _ _ _ (lv_sub hl [1, 2, 3, 0] rfl) hP hD hS hg
      · have hg := zn hg h52
        refine lv_aload_n hx hb dX11_turns_55 rfl (lv_at hl 0 rfl) ?_
        refine zget (C := RX11) (T := TX11) (N := 31) S hK hP 0 rfl rfl 0 (Nat.le_of_ble_eq_true rfl) zf_11 zw_149 rfl dX11_turns_56 ?_
        refine lv_bipush (v := 55) hx hb dX11_turns_59 (by decide) ?_
        refine lv_iload_n hx hb dX11_turns_61 rfl (lv_at hl 3 rfl) ?_
        refine lv_iadd hx hb dX11_turns_62 ?_
        obtain ⟨h8, hg⟩ := zck hg
        refine ziald hx hb hK hP 1 0 rfl rfl (j := ((55 + x3).toNatClampNeg)) h8 rfl dX11_turns_63 ?_
        refine lv_iload_n hx hb dX11_turns_64 rfl (lv_at hl 2 rfl) ?_
        refine lv_icmp_le (tgt := 80) hx hb dX11_turns_65 (by decide) (fun h65 => ?_) (fun h65 => ?_)
        · have hg := zp hg h65
          refine lv_iload_n hx hb dX11_turns_80 rfl (lv_at hl 2 rfl) ?_
          exact B81 (g_X11_turns_45 a_M_now x1 n) ih x3 x2 v_M_acts v_M_waits v_M_place a_M_held a_M_wait a_M_act a_M_clocks a_M_counts a_M_talking a_M_heap a_M_refused _ _ _ (lv_sub hl [0, 1, 3] rfl) hP hD hS hg
        · have hg := zn hg h65
          refine lv_aload_n hx hb dX11_turns_68 rfl (lv_at hl 0 rfl) ?_
          refine zget (C := RX11) (T := TX11) (N := 31) S hK hP 0 rfl rfl 0 (Nat.le_of_ble_eq_true rfl) zf_11 zw_149 rfl dX11_turns_69 ?_
          refine lv_bipush (v := 55) hx hb dX11_turns_72 (by decide) ?_
          refine lv_iload_n hx hb dX11_turns_74 rfl (lv_at hl 3 rfl) ?_
          refine lv_iadd hx hb dX11_turns_75 ?_
          obtain ⟨h9, hg⟩ := zck hg
          refine ziald hx hb hK hP 1 0 rfl rfl (j := ((55 + x3).toNatClampNeg)) h9 rfl dX11_turns_76 ?_
          refine lv_goto (tgt := 81) hx hb dX11_turns_77 (by decide) ?_
          exact B81 (g_X11_turns_45 a_M_now x1 n) ih x3 (a_M_now ((55 + x3).toNatClampNeg)) v_M_acts v_M_waits v_M_place a_M_held a_M_wait a_M_act a_M_clocks a_M_counts a_M_talking a_M_heap a_M_refused _ _ _ (lv_sub hl [0, 1, 3] rfl) hP hD hS hg
  refine lv_iload_n hx hb dX11_turns_0 rfl (lv_at hl 1 rfl) ?_
  refine lv_i2l hx hb dX11_turns_1 rfl ?_
  refine lv_lconst (v := 1) hx hb dX11_turns_2 (by decide) ?_
  refine lv_ldc2 (v := 60) hx hb S.2.2.2.1 (ht _ zw_750) dX11_turns_3 ?_
  obtain ⟨v1, hc2, hg⟩ := zbd hg
  refine zcallS (rest := []) S (c_X11_in l D cI cJ cZ cA ga x1.toInt64 (1 : Int64) (60 : Int64) v1 hc2) (zgS zw_220 zw_221 zw_5 zw_222) rfl hd_X11_in ⟨rfl, rfl⟩ ⟨Nat.le_of_ble_eq_true rfl, Nat.le_of_ble_eq_true rfl⟩ rfl hl.1 rfl (Nat.le_of_ble_eq_true rfl) dX11_turns_6 hP hD hS hA hK hG (isC := []) rfl rfl rfl (w2 := (ws_X11_turns cI cJ cZ cA q_M q_M_now q_M_held q_M_wait q_M_act q_M_clocks q_M_counts q_M_talking q_M_heap q_M_refused u_M_images u_M_kept u_M_text u_M_size u_M_sign u_M_manyAbove u_M_manyBelow u_M_above u_M_below u_M_at u_M_begin u_M_kind u_M_value u_M_read u_M_most u_M_hasA u_M_hasB u_M_talks u_M_big v_M_acts v_M_waits v_M_place a_M_now a_M_held a_M_wait a_M_act a_M_clocks a_M_counts a_M_talking a_M_heap a_M_refused)) rfl (st1 := [.int v1]) rfl (fun H locs hP hD hS => ?_)
  refine lv_if_ne (tgt := 19) hx hb dX11_turns_9 (by decide) (fun h9 => ?_) (fun h9 => ?_)
  · have hg := zn hg h9
    refine lv_aload_n hx hb dX11_turns_19 rfl (lv_at hl 0 rfl) ?_
    refine zget (C := RX11) (T := TX11) (N := 31) S hK hP 0 rfl rfl 0 (Nat.le_of_ble_eq_true rfl) zf_11 zw_149 rfl dX11_turns_20 ?_
    refine lv_iconst (v := 3) hx hb dX11_turns_23 (by decide) ?_
    refine ziald hx hb hK hP 1 0 rfl rfl (j := 3) (zin (by decide)) (by decide) dX11_turns_24 ?_
    refine lv_if_ne (tgt := 35) hx hb dX11_turns_25 (by decide) (fun h25 => ?_) (fun h25 => ?_)
    · have hg := zn hg h25
      refine lv_aload_n hx hb dX11_turns_35 rfl (lv_at hl 0 rfl) ?_
      refine lv_bipush (v := 31) hx hb dX11_turns_36 (by decide) ?_
      obtain ⟨v3, hc4, hg⟩ := zbd hg
      refine zcallV (rest := []) S (c_X11_winds l D cI cJ cZ cA ga q_M q_M_held q_M_now q_M_wait q_M_act q_M_clocks q_M_counts q_M_talking q_M_heap u_M_images u_M_kept u_M_text u_M_size u_M_sign u_M_manyAbove u_M_manyBelow u_M_above u_M_below (.ref q_M_refused) u_M_at u_M_begin u_M_kind u_M_value u_M_read u_M_most u_M_hasA u_M_hasB u_M_talks u_M_big v_M_acts v_M_waits v_M_place a_M_held a_M_now a_M_wait a_M_act a_M_clocks a_M_counts a_M_talking a_M_heap 31 v3 hc4) (zgV zw_678 zw_679 zw_680 zw_5 zw_681) rfl hd_X11_winds ⟨rfl, rfl⟩ ⟨Nat.le_of_ble_eq_true rfl, Nat.le_of_ble_eq_true rfl⟩ 0 11 rfl rfl rfl hl.1 rfl (Nat.le_of_ble_eq_true rfl) dX11_turns_38 hP hD hS hA hK hG (isC := [0, 2, 1, 3, 4, 5, 6, 7, 8]) rfl rfl rfl (w2 := (ws_X11_turns cI cJ cZ cA q_M q_M_now q_M_held q_M_wait q_M_act q_M_clocks q_M_counts q_M_talking q_M_heap q_M_refused u_M_images u_M_kept u_M_text u_M_size u_M_sign u_M_manyAbove u_M_manyBelow u_M_above u_M_below u_M_at u_M_begin u_M_kind u_M_value u_M_read u_M_most u_M_hasA u_M_hasB u_M_talks u_M_big v3.1 v3.2.1 v3.2.2.1 a_M_now v3.2.2.2.1 v3.2.2.2.2.1 v3.2.2.2.2.2.1 v3.2.2.2.2.2.2.1 v3.2.2.2.2.2.2.2.1 v3.2.2.2.2.2.2.2.2.1 v3.2.2.2.2.2.2.2.2.2 a_M_refused)) rfl (st1 := []) rfl (fun H locs hP hD hS => ?_)
      refine lv_iconst (v := 0) hx hb dX11_turns_41 (by decide) ?_
      refine lv_istore_n (lv' := [(2, .int 0), (0, .ref q_M), (1, .int x1)]) hx hb dX11_turns_42 rfl hl (by decide) rfl (fun ls hl => ?_)
      refine lv_iconst (v := 0) hx hb dX11_turns_43 (by decide) ?_
      refine lv_istore_n (lv' := [(3, .int 0), (2, .int 0), (0, .ref q_M), (1, .int x1)]) hx hb dX11_turns_44 rfl hl (by decide) rfl (fun ls hl => ?_)
      exact B45 zF 0 0 v3.1 v3.2.1 v3.2.2.1 v3.2.2.2.1 v3.2.2.2.2.1 v3.2.2.2.2.2.1 v3.2.2.2.2.2.2.1 v3.2.2.2.2.2.2.2.1 v3.2.2.2.2.2.2.2.2.1 v3.2.2.2.2.2.2.2.2.2 a_M_refused _ _ _ (lv_sub hl [2, 3, 1, 0] rfl) hP hD hS hg
    · have hg := zp hg h25
      refine lv_aload_n hx hb dX11_turns_28 rfl (lv_at hl 0 rfl) ?_
      refine lv_bipush (v := (-3)) hx hb dX11_turns_29 (by decide) ?_
      obtain ⟨v10, hc11, hg⟩ := zbd hg
      refine zcallV (rest := []) S (c_X11_refuse l D cI cJ cZ cA ga q_M q_M_refused (.ref q_M_now) u_M_images u_M_kept u_M_text u_M_size u_M_sign u_M_manyAbove u_M_manyBelow u_M_above u_M_below u_M_at u_M_begin u_M_kind u_M_value u_M_read (.int v_M_acts) (.ref q_M_act) (.int v_M_waits) (.ref q_M_wait) (.ref q_M_held) (.int v_M_place) (.ref q_M_heap) (.ref q_M_clocks) (.ref q_M_counts) (.ref q_M_talking) u_M_most u_M_hasA u_M_hasB u_M_talks u_M_big a_M_refused (-3) v10 hc11) (zgV zw_223 zw_224 zw_225 zw_5 zw_226) rfl hd_X11_refuse ⟨rfl, rfl⟩ ⟨Nat.le_of_ble_eq_true rfl, Nat.le_of_ble_eq_true rfl⟩ 0 11 rfl rfl rfl hl.1 rfl (Nat.le_of_ble_eq_true rfl) dX11_turns_31 hP hD hS hA hK hG (isC := [0, 9]) rfl rfl rfl (w2 := (ws_X11_turns cI cJ cZ cA q_M q_M_now q_M_held q_M_wait q_M_act q_M_clocks q_M_counts q_M_talking q_M_heap q_M_refused u_M_images u_M_kept u_M_text u_M_size u_M_sign u_M_manyAbove u_M_manyBelow u_M_above u_M_below u_M_at u_M_begin u_M_kind u_M_value u_M_read u_M_most u_M_hasA u_M_hasB u_M_talks u_M_big v_M_acts v_M_waits v_M_place a_M_now a_M_held a_M_wait a_M_act a_M_clocks a_M_counts a_M_talking a_M_heap v10.2)) rfl (st1 := [.int v10.1]) rfl (fun H locs hP hD hS => ?_)
      exact hret v10.1 v_M_acts v_M_waits v_M_place a_M_held a_M_wait a_M_act a_M_clocks a_M_counts a_M_talking a_M_heap v10.2 hg _ _ _ _ hP hS dX11_turns_34
  · have hg := zp hg h9
    refine lv_aload_n hx hb dX11_turns_12 rfl (lv_at hl 0 rfl) ?_
    refine lv_bipush (v := (-2)) hx hb dX11_turns_13 (by decide) ?_
    obtain ⟨v12, hc13, hg⟩ := zbd hg
    refine zcallV (rest := []) S (c_X11_refuse l D cI cJ cZ cA ga q_M q_M_refused (.ref q_M_now) u_M_images u_M_kept u_M_text u_M_size u_M_sign u_M_manyAbove u_M_manyBelow u_M_above u_M_below u_M_at u_M_begin u_M_kind u_M_value u_M_read (.int v_M_acts) (.ref q_M_act) (.int v_M_waits) (.ref q_M_wait) (.ref q_M_held) (.int v_M_place) (.ref q_M_heap) (.ref q_M_clocks) (.ref q_M_counts) (.ref q_M_talking) u_M_most u_M_hasA u_M_hasB u_M_talks u_M_big a_M_refused (-2) v12 hc13) (zgV zw_223 zw_224 zw_225 zw_5 zw_226) rfl hd_X11_refuse ⟨rfl, rfl⟩ ⟨Nat.le_of_ble_eq_true rfl, Nat.le_of_ble_eq_true rfl⟩ 0 11 rfl rfl rfl hl.1 rfl (Nat.le_of_ble_eq_true rfl) dX11_turns_15 hP hD hS hA hK hG (isC := [0, 9]) rfl rfl rfl (w2 := (ws_X11_turns cI cJ cZ cA q_M q_M_now q_M_held q_M_wait q_M_act q_M_clocks q_M_counts q_M_talking q_M_heap q_M_refused u_M_images u_M_kept u_M_text u_M_size u_M_sign u_M_manyAbove u_M_manyBelow u_M_above u_M_below u_M_at u_M_begin u_M_kind u_M_value u_M_read u_M_most u_M_hasA u_M_hasB u_M_talks u_M_big v_M_acts v_M_waits v_M_place a_M_now a_M_held a_M_wait a_M_act a_M_clocks a_M_counts a_M_talking a_M_heap v12.2)) rfl (st1 := [.int v12.1]) rfl (fun H locs hP hD hS => ?_)
    exact hret v12.1 v_M_acts v_M_waits v_M_place a_M_held a_M_wait a_M_act a_M_clocks a_M_counts a_M_talking a_M_heap v12.2 hg _ _ _ _ hP hS dX11_turns_18

/-! SpokenClockModel.paid(I)I -/
abbrev ws_X11_paid (cI cJ cZ cA : ClassId) (q_M q_M_now q_M_held q_M_wait q_M_act q_M_clocks q_M_counts q_M_talking q_M_heap q_M_refused : Nat) (u_M_images : Value) (u_M_kept : Value) (u_M_text : Value) (u_M_size : Value) (u_M_sign : Value) (u_M_manyAbove : Value) (u_M_manyBelow : Value) (u_M_above : Value) (u_M_below : Value) (u_M_at : Value) (u_M_begin : Value) (u_M_kind : Value) (u_M_value : Value) (u_M_read : Value) (u_M_most : Value) (u_M_hasA : Value) (u_M_hasB : Value) (u_M_talks : Value) (u_M_big : Value) (v_M_acts : Int32) (v_M_waits : Int32) (v_M_place : Int32) (a_M_now : Nat → Int32) (a_M_held : Nat → Int32) (a_M_wait : Nat → Int32) (a_M_act : Nat → Int32) (a_M_clocks : Nat → Int32) (a_M_counts : Nat → Int32) (a_M_talking : Nat → Int32) (a_M_heap : Nat → Int64) (a_M_refused : Nat → Int32) : va_W := [(q_M, .inr (11, [.ref q_M_now, u_M_images, u_M_kept, u_M_text, u_M_size, u_M_sign, u_M_manyAbove, u_M_manyBelow, u_M_above, u_M_below, .ref q_M_refused, u_M_at, u_M_begin, u_M_kind, u_M_value, u_M_read, .int v_M_acts, .ref q_M_act, .int v_M_waits, .ref q_M_wait, .ref q_M_held, .int v_M_place, .ref q_M_heap, .ref q_M_clocks, .ref q_M_counts, .ref q_M_talking, u_M_most, u_M_hasA, u_M_hasB, u_M_talks, u_M_big])), (q_M_now, .inl (cI, 155, .inl a_M_now)), (q_M_held, .inl (cZ, 9, .inl a_M_held)), (q_M_wait, .inl (cI, 80, .inl a_M_wait)), (q_M_act, .inl (cI, 80, .inl a_M_act)), (q_M_clocks, .inl (cI, 482, .inl a_M_clocks)), (q_M_counts, .inl (cI, 1200, .inl a_M_counts)), (q_M_talking, .inl (cZ, 1200, .inl a_M_talking)), (q_M_heap, .inl (cJ, 41, .inr (.inl a_M_heap))), (q_M_refused, .inl (cI, 3, .inl a_M_refused))]
abbrev rm_X11_paid : Room := { frames := 5, cells := 0, slots := 0, locals := 120 }
def g_X11_paid_110 (a_M_now : Nat → Int32) (x1 : Int32) (k35 : Int32 → Int32 → Int32 → Int32 → Int32 → (Nat → Int32) → (Nat → Int32) → (Nat → Int32) → (Nat → Int32) → (Nat → Int32) → (Nat → Int32) → (Nat → Int64) → (Nat → Int32) → Option (Int32 × Int32 × Int32 × Int32 × (Nat → Int32) × (Nat → Int32) × (Nat → Int32) × (Nat → Int32) × (Nat → Int32) × (Nat → Int32) × (Nat → Int64) × (Nat → Int32))) (x3 : Int32) (t0 : Int32) (t1 : Int32) (v_M_acts : Int32) (v_M_waits : Int32) (v_M_place : Int32) (a_M_held : Nat → Int32) (a_M_wait : Nat → Int32) (a_M_act : Nat → Int32) (a_M_clocks : Nat → Int32) (a_M_counts : Nat → Int32) (a_M_talking : Nat → Int32) (a_M_heap : Nat → Int64) (a_M_refused : Nat → Int32) : Option (Int32 × Int32 × Int32 × Int32 × (Nat → Int32) × (Nat → Int32) × (Nat → Int32) × (Nat → Int32) × (Nat → Int32) × (Nat → Int32) × (Nat → Int64) × (Nat → Int32)) :=
  k35 (t0 + t1) (x3 + 1) v_M_acts v_M_waits v_M_place a_M_held a_M_wait a_M_act a_M_clocks a_M_counts a_M_talking a_M_heap a_M_refused
def g_X11_paid_76 (a_M_now : Nat → Int32) (x1 : Int32) (k35 : Int32 → Int32 → Int32 → Int32 → Int32 → (Nat → Int32) → (Nat → Int32) → (Nat → Int32) → (Nat → Int32) → (Nat → Int32) → (Nat → Int32) → (Nat → Int64) → (Nat → Int32) → Option (Int32 × Int32 × Int32 × Int32 × (Nat → Int32) × (Nat → Int32) × (Nat → Int32) × (Nat → Int32) × (Nat → Int32) × (Nat → Int32) × (Nat → Int64) × (Nat → Int32))) (x2 : Int32) (x3 : Int32) (t0 : Int32) (v_M_acts : Int32) (v_M_waits : Int32) (v_M_place : Int32) (a_M_held : Nat → Int32) (a_M_wait : Nat → Int32) (a_M_act : Nat → Int32) (a_M_clocks : Nat → Int32) (a_M_counts : Nat → Int32) (a_M_talking : Nat → Int32) (a_M_heap : Nat → Int64) (a_M_refused : Nat → Int32) : Option (Int32 × Int32 × Int32 × Int32 × (Nat → Int32) × (Nat → Int32) × (Nat → Int32) × (Nat → Int32) × (Nat → Int32) × (Nat → Int32) × (Nat → Int64) × (Nat → Int32)) :=
  if x1 = x3 then (
    g_X11_paid_110 a_M_now x1 k35 x3 x2 t0 v_M_acts v_M_waits v_M_place a_M_held a_M_wait a_M_act a_M_clocks a_M_counts a_M_talking a_M_heap a_M_refused
  ) else (
    if x1 = (-1) then (
      if (87 + x3) < 0 ∨ 155 ≤ (87 + x3).toNatClampNeg then none else
      g_X11_paid_110 a_M_now x1 k35 x3 x2 (t0 * (a_M_now ((87 + x3).toNatClampNeg))) v_M_acts v_M_waits v_M_place a_M_held a_M_wait a_M_act a_M_clocks a_M_counts a_M_talking a_M_heap a_M_refused
    ) else (
      g_X11_paid_110 a_M_now x1 k35 x3 x2 0 v_M_acts v_M_waits v_M_place a_M_held a_M_wait a_M_act a_M_clocks a_M_counts a_M_talking a_M_heap a_M_refused
    )
  )
def g_X11_paid_35b (a_M_now : Nat → Int32) (x1 : Int32) (k35 : Int32 → Int32 → Int32 → Int32 → Int32 → (Nat → Int32) → (Nat → Int32) → (Nat → Int32) → (Nat → Int32) → (Nat → Int32) → (Nat → Int32) → (Nat → Int64) → (Nat → Int32) → Option (Int32 × Int32 × Int32 × Int32 × (Nat → Int32) × (Nat → Int32) × (Nat → Int32) × (Nat → Int32) × (Nat → Int32) × (Nat → Int32) × (Nat → Int64) × (Nat → Int32))) (x2 : Int32) (x3 : Int32) (v_M_acts : Int32) (v_M_waits : Int32) (v_M_place : Int32) (a_M_held : Nat → Int32) (a_M_wait : Nat → Int32) (a_M_act : Nat → Int32) (a_M_clocks : Nat → Int32) (a_M_counts : Nat → Int32) (a_M_talking : Nat → Int32) (a_M_heap : Nat → Int64) (a_M_refused : Nat → Int32) : Option (Int32 × Int32 × Int32 × Int32 × (Nat → Int32) × (Nat → Int32) × (Nat → Int32) × (Nat → Int32) × (Nat → Int32) × (Nat → Int32) × (Nat → Int64) × (Nat → Int32)) :=
  if (a_M_now 5) ≤ x3 then (
    some (x2, v_M_acts, v_M_waits, v_M_place, a_M_held, a_M_wait, a_M_act, a_M_clocks, a_M_counts, a_M_talking, a_M_heap, a_M_refused)
  ) else (
    if (79 + x3) < 0 ∨ 155 ≤ (79 + x3).toNatClampNeg then none else
    if (a_M_now ((79 + x3).toNatClampNeg)) < 0 ∨ 482 ≤ (a_M_now ((79 + x3).toNatClampNeg)).toNatClampNeg then none else
    if (71 + x3) < 0 ∨ 155 ≤ (71 + x3).toNatClampNeg then none else
    if (a_M_clocks ((a_M_now ((79 + x3).toNatClampNeg)).toNatClampNeg)) < (a_M_now ((71 + x3).toNatClampNeg)) then (
      g_X11_paid_76 a_M_now x1 k35 x2 x3 0 v_M_acts v_M_waits v_M_place a_M_held a_M_wait a_M_act a_M_clocks a_M_counts a_M_talking a_M_heap a_M_refused
    ) else (
      g_X11_paid_76 a_M_now x1 k35 x2 x3 1 v_M_acts v_M_waits v_M_place a_M_held a_M_wait a_M_act a_M_clocks a_M_counts a_M_talking a_M_heap a_M_refused
    )
  )
def g_X11_paid_35 (a_M_now : Nat → Int32) (x1 : Int32) : Nat → Int32 → Int32 → Int32 → Int32 → Int32 → (Nat → Int32) → (Nat → Int32) → (Nat → Int32) → (Nat → Int32) → (Nat → Int32) → (Nat → Int32) → (Nat → Int64) → (Nat → Int32) → Option (Int32 × Int32 × Int32 × Int32 × (Nat → Int32) × (Nat → Int32) × (Nat → Int32) × (Nat → Int32) × (Nat → Int32) × (Nat → Int32) × (Nat → Int64) × (Nat → Int32))
  | 0, _, _, _, _, _, _, _, _, _, _, _, _, _ => none
  | n + 1, x2, x3, v_M_acts, v_M_waits, v_M_place, a_M_held, a_M_wait, a_M_act, a_M_clocks, a_M_counts, a_M_talking, a_M_heap, a_M_refused => g_X11_paid_35b a_M_now x1 (g_X11_paid_35 a_M_now x1 n) x2 x3 v_M_acts v_M_waits v_M_place a_M_held a_M_wait a_M_act a_M_clocks a_M_counts a_M_talking a_M_heap a_M_refused
def g_X11_paid (a_M_now : Nat → Int32) (x1 : Int32) (v_M_acts : Int32) (v_M_waits : Int32) (v_M_place : Int32) (a_M_held : Nat → Int32) (a_M_wait : Nat → Int32) (a_M_act : Nat → Int32) (a_M_clocks : Nat → Int32) (a_M_counts : Nat → Int32) (a_M_talking : Nat → Int32) (a_M_heap : Nat → Int64) (a_M_refused : Nat → Int32) : Option (Int32 × Int32 × Int32 × Int32 × (Nat → Int32) × (Nat → Int32) × (Nat → Int32) × (Nat → Int32) × (Nat → Int32) × (Nat → Int32) × (Nat → Int64) × (Nat → Int32)) :=
  (g_X11_in x1.toInt64 (-1 : Int64) (((a_M_now 5) - 1).toInt64)).bind fun v1 =>
  if v1 = 0 then (
    (g_X11_worse a_M_refused).bind fun v9 =>
    some (v9.1, v_M_acts, v_M_waits, v_M_place, a_M_held, a_M_wait, a_M_act, a_M_clocks, a_M_counts, a_M_talking, a_M_heap, v9.2)
  ) else (
    (g_X11_winds a_M_now 31 v_M_acts v_M_waits v_M_place a_M_held a_M_wait a_M_act a_M_clocks a_M_counts a_M_talking a_M_heap).bind fun v3 =>
    g_X11_paid_35 a_M_now x1 zF 0 0 v3.1 v3.2.1 v3.2.2.1 v3.2.2.2.1 v3.2.2.2.2.1 v3.2.2.2.2.2.1 v3.2.2.2.2.2.2.1 v3.2.2.2.2.2.2.2.1 v3.2.2.2.2.2.2.2.2.1 v3.2.2.2.2.2.2.2.2.2 a_M_refused
  )
theorem hd_X11_paid : yX11_paid.cls = RX11 ∧ yX11_paid.cls ≠ "java/lang/invoke/MethodHandle" ∧ yX11_paid.cls ≠ "java/lang/invoke/VarHandle" ∧ (parseMethodDescriptor yX11_paid.desc).map (fun d => d.parameters.length) = some 1 := by decide +kernel
set_option maxHeartbeats 4000000 in
set_option maxRecDepth 100000 in
theorem c_X11_paid (l : Launch) (D : va_G) (cI cJ cZ cA : ClassId) (ga : Nat → Nat) (q_M q_M_now q_M_held q_M_wait q_M_act q_M_clocks q_M_counts q_M_talking q_M_heap q_M_refused : Nat) (u_M_images : Value) (u_M_kept : Value) (u_M_text : Value) (u_M_size : Value) (u_M_sign : Value) (u_M_manyAbove : Value) (u_M_manyBelow : Value) (u_M_above : Value) (u_M_below : Value) (u_M_at : Value) (u_M_begin : Value) (u_M_kind : Value) (u_M_value : Value) (u_M_read : Value) (u_M_most : Value) (u_M_hasA : Value) (u_M_hasB : Value) (u_M_talks : Value) (u_M_big : Value) (v_M_acts : Int32) (v_M_waits : Int32) (v_M_place : Int32) (a_M_now : Nat → Int32) (a_M_held : Nat → Int32) (a_M_wait : Nat → Int32) (a_M_act : Nat → Int32) (a_M_clocks : Nat → Int32) (a_M_counts : Nat → Int32) (a_M_talking : Nat → Int32) (a_M_heap : Nat → Int64) (a_M_refused : Nat → Int32) (x1 : Int32) (o : Int32 × Int32 × Int32 × Int32 × (Nat → Int32) × (Nat → Int32) × (Nat → Int32) × (Nat → Int32) × (Nat → Int32) × (Nat → Int32) × (Nat → Int64) × (Nat → Int32)) (hg : g_X11_paid a_M_now x1 v_M_acts v_M_waits v_M_place a_M_held a_M_wait a_M_act a_M_clocks a_M_counts a_M_talking a_M_heap a_M_refused = some o) : zM l yX11_paid (Cond.code yX11_paid cX11_paid 5 (some .int) :: wsL_law) rm_X11_paid D (zTy cI cJ cZ cA) ga [.ref q_M, .int x1] (ws_X11_paid cI cJ cZ cA q_M q_M_now q_M_held q_M_wait q_M_act q_M_clocks q_M_counts q_M_talking q_M_heap q_M_refused u_M_images u_M_kept u_M_text u_M_size u_M_sign u_M_manyAbove u_M_manyBelow u_M_above u_M_below u_M_at u_M_begin u_M_kind u_M_value u_M_read u_M_most u_M_hasA u_M_hasB u_M_talks u_M_big v_M_acts v_M_waits v_M_place a_M_now a_M_held a_M_wait a_M_act a_M_clocks a_M_counts a_M_talking a_M_heap a_M_refused) (ws_X11_paid cI cJ cZ cA q_M q_M_now q_M_held q_M_wait q_M_act q_M_clocks q_M_counts q_M_talking q_M_heap q_M_refused u_M_images u_M_kept u_M_text u_M_size u_M_sign u_M_manyAbove u_M_manyBelow u_M_above u_M_below u_M_at u_M_begin u_M_kind u_M_value u_M_read u_M_most u_M_hasA u_M_hasB u_M_talks u_M_big o.2.1 o.2.2.1 o.2.2.2.1 a_M_now o.2.2.2.2.1 o.2.2.2.2.2.1 o.2.2.2.2.2.2.1 o.2.2.2.2.2.2.2.1 o.2.2.2.2.2.2.2.2.1 o.2.2.2.2.2.2.2.2.2.1 o.2.2.2.2.2.2.2.2.2.2.1 o.2.2.2.2.2.2.2.2.2.2.2) (some (.int o.1)) := by
  refine zenterI (own := RX11) (by decide) rfl rfl (Nat.le_of_ble_eq_true rfl) ?_
  intro p e s m args below meth c A ls Q S hA hK hG hl hP hD hS hret0
  have hx := S.1
  have hb := S.2.1
  have ht : ∀ w, w ∈ wsL_law → w.before args s = true := fun w h => S.2.2.2.2 w (List.mem_cons_of_mem _ h)
  have hret : ∀ (r9 : Int32) (v_M_acts : Int32) (v_M_waits : Int32) (v_M_place : Int32) (a_M_held : Nat → Int32) (a_M_wait : Nat → Int32) (a_M_act : Nat → Int32) (a_M_clocks : Nat → Int32) (a_M_counts : Nat → Int32) (a_M_talking : Nat → Int32) (a_M_heap : Nat → Int64) (a_M_refused : Nat → Int32), (some (r9, v_M_acts, v_M_waits, v_M_place, a_M_held, a_M_wait, a_M_act, a_M_clocks, a_M_counts, a_M_talking, a_M_heap, a_M_refused) : Option (Int32 × Int32 × Int32 × Int32 × (Nat → Int32) × (Nat → Int32) × (Nat → Int32) × (Nat → Int32) × (Nat → Int32) × (Nat → Int32) × (Nat → Int64) × (Nat → Int32))) = some o → ∀ (H : Heap) (locs : List Loc) (pc : Nat) (ls : Array Slot), va_P D vwCl (ws_X11_paid cI cJ cZ cA q_M q_M_now q_M_held q_M_wait q_M_act q_M_clocks q_M_counts q_M_talking q_M_heap q_M_refused u_M_images u_M_kept u_M_text u_M_size u_M_sign u_M_manyAbove u_M_manyBelow u_M_above u_M_below u_M_at u_M_begin u_M_kind u_M_value u_M_read u_M_most u_M_hasA u_M_hasB u_M_talks u_M_big v_M_acts v_M_waits v_M_place a_M_now a_M_held a_M_wait a_M_act a_M_clocks a_M_counts a_M_talking a_M_heap a_M_refused) H → va_S A s.heap H locs → decode cX11_paid pc = .ok (.ireturn, 1) → W p l e rm_X11_paid s m args below meth c H locs 0 0 Q (F0 m pc ls [.int r9]) := by
    intro r9 v_M_acts v_M_waits v_M_place a_M_held a_M_wait a_M_act a_M_clocks a_M_counts a_M_talking a_M_heap a_M_refused he; cases he; exact hret0
  have hl : lv_has ls 5 [(0, .ref q_M), (1, .int x1)] := hl
  have B110 : ∀ (k35 : Int32 → Int32 → Int32 → Int32 → Int32 → (Nat → Int32) → (Nat → Int32) → (Nat → Int32) → (Nat → Int32) → (Nat → Int32) → (Nat → Int32) → (Nat → Int64) → (Nat → Int32) → Option (Int32 × Int32 × Int32 × Int32 × (Nat → Int32) × (Nat → Int32) × (Nat → Int32) × (Nat → Int32) × (Nat → Int32) × (Nat → Int32) × (Nat → Int64) × (Nat → Int32))) (hk35 : ∀ (x2 : Int32) (x3 : Int32) (v_M_acts : Int32) (v_M_waits : Int32) (v_M_place : Int32) (a_M_held : Nat → Int32) (a_M_wait : Nat → Int32) (a_M_act : Nat → Int32) (a_M_clocks : Nat → Int32) (a_M_counts : Nat → Int32) (a_M_talking : Nat → Int32) (a_M_heap : Nat → Int64) (a_M_refused : Nat → Int32) (H : Heap) (locs : List Loc) (ls : Array Slot) (hl : lv_has ls 5 [(0, .ref q_M), (1, .int x1), (2, .int x2), (3, .int x3)]) (hP : va_P D vwCl (ws_X11_paid cI cJ cZ cA q_M q_M_now q_M_held q_M_wait q_M_act q_M_clocks q_M_counts q_M_talking q_M_heap q_M_refused u_M_images u_M_kept u_M_text u_M_size u_M_sign u_M_manyAbove u_M_manyBelow u_M_above u_M_below u_M_at u_M_begin u_M_kind u_M_value u_M_read u_M_most u_M_hasA u_M_hasB u_M_talks u_M_big v_M_acts v_M_waits v_M_place a_M_now a_M_held a_M_wait a_M_act a_M_clocks a_M_counts a_M_talking a_M_heap a_M_refused) H) (hD : va_D A (ws_X11_paid cI cJ cZ cA q_M q_M_now q_M_held q_M_wait q_M_act q_M_clocks q_M_counts q_M_talking q_M_heap q_M_refused u_M_images u_M_kept u_M_text u_M_size u_M_sign u_M_manyAbove u_M_manyBelow u_M_above u_M_below u_M_at u_M_begin u_M_kind u_M_value u_M_read u_M_most u_M_hasA u_M_hasB u_M_talks u_M_big v_M_acts v_M_waits v_M_place a_M_now a_M_held a_M_wait a_M_act a_M_clocks a_M_counts a_M_talking a_M_heap a_M_refused)) (hS : va_S A s.heap H locs), k35 x2 x3 v_M_acts v_M_waits v_M_place a_M_held a_M_wait a_M_act a_M_clocks a_M_counts a_M_talking a_M_heap a_M_refused = some o → W p l e rm_X11_paid s m args below meth c H locs 0 0 Q (F0 m 35 ls [])) (x3 : Int32) (t0 : Int32) (t1 : Int32) (v_M_acts : Int32) (v_M_waits : Int32) (v_M_place : Int32) (a_M_held : Nat → Int32) (a_M_wait : Nat → Int32) (a_M_act : Nat → Int32) (a_M_clocks : Nat → Int32) (a_M_counts : Nat → Int32) (a_M_talking : Nat → Int32) (a_M_heap : Nat → Int64) (a_M_refused : Nat → Int32) (H : Heap) (locs : List Loc) (ls : Array Slot) (hl : lv_has ls 5 [(0, .ref q_M), (1, .int x1), (3, .int x3)]) (hP : va_P D vwCl (ws_X11_paid cI cJ cZ cA q_M q_M_now q_M_held q_M_wait q_M_act q_M_clocks q_M_counts q_M_talking q_M_heap q_M_refused u_M_images u_M_kept u_M_text u_M_size u_M_sign u_M_manyAbove u_M_manyBelow u_M_above u_M_below u_M_at u_M_begin u_M_kind u_M_value u_M_read u_M_most u_M_hasA u_M_hasB u_M_talks u_M_big v_M_acts v_M_waits v_M_place a_M_now a_M_held a_M_wait a_M_act a_M_clocks a_M_counts a_M_talking a_M_heap a_M_refused) H) (hD : va_D A (ws_X11_paid cI cJ cZ cA q_M q_M_now q_M_held q_M_wait q_M_act q_M_clocks q_M_counts q_M_talking q_M_heap q_M_refused u_M_images u_M_kept u_M_text u_M_size u_M_sign u_M_manyAbove u_M_manyBelow u_M_above u_M_below u_M_at u_M_begin u_M_kind u_M_value u_M_read u_M_most u_M_hasA u_M_hasB u_M_talks u_M_big v_M_acts v_M_waits v_M_place a_M_now a_M_held a_M_wait a_M_act a_M_clocks a_M_counts a_M_talking a_M_heap a_M_refused)) (hS : va_S A s.heap H locs), g_X11_paid_110 a_M_now x1 k35 x3 t0 t1 v_M_acts v_M_waits v_M_place a_M_held a_M_wait a_M_act a_M_clocks a_M_counts a_M_talking a_M_heap a_M_refused = some o → W p l e rm_X11_paid s m args below meth c H locs 0 0 Q (F0 m 110 ls [.int t1, .int t0]) := by
    intro k35 hk35 x3 t0 t1 v_M_acts v_M_waits v_M_place a_M_held a_M_wait a_M_act a_M_clocks a_M_counts a_M_talking a_M_heap a_M_refused H locs ls hl hP hD hS hg
    refine lv_iadd hx hb dX11_paid_110 ?_
    refine lv_istore_n (lv' := [(2, .int (t0 + t1)), (0, .ref q_M), (1, .int x1), (3, .int x3)]) hx hb dX11_paid_111 rfl hl (by decide) rfl (fun ls hl => ?_)
    refine lv_iinc (k := 3) (v := x3 + 1) (lv' := [(3, .int (x3 + 1)), (2, .int (t0 + t1)), (0, .ref q_M), (1, .int x1)]) hx hb dX11_paid_112 hl rfl (zinc (by decide)) (by decide) rfl (fun ls hl => ?_)
    refine lv_goto (tgt := 35) hx hb dX11_paid_115 (by decide) ?_
    exact hk35 (t0 + t1) (x3 + 1) v_M_acts v_M_waits v_M_place a_M_held a_M_wait a_M_act a_M_clocks a_M_counts a_M_talking a_M_heap a_M_refused _ _ _ (lv_sub hl [2, 3, 1, 0] rfl) hP hD hS hg
  have B76 : ∀ (k35 : Int32 → Int32 → Int32 → Int32 → Int32 → (Nat → Int32) → (Nat → Int32) → (Nat → Int32) → (Nat → Int32) → (Nat → Int32) → (Nat → Int32) → (Nat → Int64) → (Nat → Int32) → Option (Int32 × Int32 × Int32 × Int32 × (Nat → Int32) × (Nat → Int32) × (Nat → Int32) × (Nat → Int32) × (Nat → Int32) × (Nat → Int32) × (Nat → Int64) × (Nat → Int32))) (hk35 : ∀ (x2 : Int32) (x3 : Int32) (v_M_acts : Int32) (v_M_waits : Int32) (v_M_place : Int32) (a_M_held : Nat → Int32) (a_M_wait : Nat → Int32) (a_M_act : Nat → Int32) (a_M_clocks : Nat → Int32) (a_M_counts : Nat → Int32) (a_M_talking : Nat → Int32) (a_M_heap : Nat → Int64) (a_M_refused : Nat → Int32) (H : Heap) (locs : List Loc) (ls : Array Slot) (hl : lv_has ls 5 [(0, .ref q_M), (1, .int x1), (2, .int x2), (3, .int x3)]) (hP : va_P D vwCl (ws_X11_paid cI cJ cZ cA q_M q_M_now q_M_held q_M_wait q_M_act q_M_clocks q_M_counts q_M_talking q_M_heap q_M_refused u_M_images u_M_kept u_M_text u_M_size u_M_sign u_M_manyAbove u_M_manyBelow u_M_above u_M_below u_M_at u_M_begin u_M_kind u_M_value u_M_read u_M_most u_M_hasA u_M_hasB u_M_talks u_M_big v_M_acts v_M_waits v_M_place a_M_now a_M_held a_M_wait a_M_act a_M_clocks a_M_counts a_M_talking a_M_heap a_M_refused) H) (hD : va_D A (ws_X11_paid cI cJ cZ cA q_M q_M_now q_M_held q_M_wait q_M_act q_M_clocks q_M_counts q_M_talking q_M_heap q_M_refused u_M_images u_M_kept u_M_text u_M_size u_M_sign u_M_manyAbove u_M_manyBelow u_M_above u_M_below u_M_at u_M_begin u_M_kind u_M_value u_M_read u_M_most u_M_hasA u_M_hasB u_M_talks u_M_big v_M_acts v_M_waits v_M_place a_M_now a_M_held a_M_wait a_M_act a_M_clocks a_M_counts a_M_talking a_M_heap a_M_refused)) (hS : va_S A s.heap H locs), k35 x2 x3 v_M_acts v_M_waits v_M_place a_M_held a_M_wait a_M_act a_M_clocks a_M_counts a_M_talking a_M_heap a_M_refused = some o → W p l e rm_X11_paid s m args below meth c H locs 0 0 Q (F0 m 35 ls [])) (x2 : Int32) (x3 : Int32) (t0 : Int32) (v_M_acts : Int32) (v_M_waits : Int32) (v_M_place : Int32) (a_M_held : Nat → Int32) (a_M_wait : Nat → Int32) (a_M_act : Nat → Int32) (a_M_clocks : Nat → Int32) (a_M_counts : Nat → Int32) (a_M_talking : Nat → Int32) (a_M_heap : Nat → Int64) (a_M_refused : Nat → Int32) (H : Heap) (locs : List Loc) (ls : Array Slot) (hl : lv_has ls 5 [(0, .ref q_M), (1, .int x1), (2, .int x2), (3, .int x3)]) (hP : va_P D vwCl (ws_X11_paid cI cJ cZ cA q_M q_M_now q_M_held q_M_wait q_M_act q_M_clocks q_M_counts q_M_talking q_M_heap q_M_refused u_M_images u_M_kept u_M_text u_M_size u_M_sign u_M_manyAbove u_M_manyBelow u_M_above u_M_below u_M_at u_M_begin u_M_kind u_M_value u_M_read u_M_most u_M_hasA u_M_hasB u_M_talks u_M_big v_M_acts v_M_waits v_M_place a_M_now a_M_held a_M_wait a_M_act a_M_clocks a_M_counts a_M_talking a_M_heap a_M_refused) H) (hD : va_D A (ws_X11_paid cI cJ cZ cA q_M q_M_now q_M_held q_M_wait q_M_act q_M_clocks q_M_counts q_M_talking q_M_heap q_M_refused u_M_images u_M_kept u_M_text u_M_size u_M_sign u_M_manyAbove u_M_manyBelow u_M_above u_M_below u_M_at u_M_begin u_M_kind u_M_value u_M_read u_M_most u_M_hasA u_M_hasB u_M_talks u_M_big v_M_acts v_M_waits v_M_place a_M_now a_M_held a_M_wait a_M_act a_M_clocks a_M_counts a_M_talking a_M_heap a_M_refused)) (hS : va_S A s.heap H locs), g_X11_paid_76 a_M_now x1 k35 x2 x3 t0 v_M_acts v_M_waits v_M_place a_M_held a_M_wait a_M_act a_M_clocks a_M_counts a_M_talking a_M_heap a_M_refused = some o → W p l e rm_X11_paid s m args below meth c H locs 0 0 Q (F0 m 76 ls [.int t0]) := by
    intro k35 hk35 x2 x3 t0 v_M_acts v_M_waits v_M_place a_M_held a_M_wait a_M_act a_M_clocks a_M_counts a_M_talking a_M_heap a_M_refused H locs ls hl hP hD hS hg
    refine lv_istore (lv' := [(4, .int t0), (0, .ref q_M), (1, .int x1), (2, .int x2), (3, .int x3)]) hx hb dX11_paid_76 hl (by decide) rfl (fun ls hl => ?_)
    refine lv_iload_n hx hb dX11_paid_78 rfl (lv_at hl 3 rfl) ?_
    refine lv_iload_n hx hb dX11_paid_79 rfl (lv_at hl 2 rfl) ?_
    refine lv_iload_n hx hb dX11_paid_80 rfl (lv_at hl 4 rfl) ?_
    refine lv_icmp_ne (tgt := 89) hx hb dX11_paid_81 (by decide) (fun h81 => ?_) (fun h81 => ?_)
    · have hg := zn hg h81
      refine lv_iload_n hx hb dX11_paid_89 rfl (lv_at hl 2 rfl) ?_
      refine lv_iconst (v := (-1)) hx hb dX11_paid_90 (by decide) ?_
      refine lv_icmp_ne (tgt := 109) hx hb dX11_paid_91 (by decide) (fun h91 => ?_) (fun h91 => ?_)
      · have hg := zn hg h91
        refine lv_iconst (v := 0) hx hb dX11_paid_109 (by decide) ?_
        exact B110 k35 hk35 x3 x2 0 v_M_acts v_M_waits v_M_place a_M_held a_M_wait a_M_act a_M_clocks a_M_counts a_M_talking a_M_heap a_M_refused _ _ _ (lv_sub hl [1, 2, 4] rfl) hP hD hS hg
      · have hg := zp hg h91
        refine lv_iload hx hb dX11_paid_94 (lv_at hl 0 rfl) ?_
        refine lv_aload_n hx hb dX11_paid_96 rfl (lv_at hl 1 rfl) ?_
        refine zget (C := RX11) (T := TX11) (N := 31) S hK hP 0 rfl rfl 0 (Nat.le_of_ble_eq_true rfl) zf_11 zw_149 rfl dX11_paid_97 ?_
        refine lv_bipush (v := 87) hx hb dX11_paid_100 (by decide) ?_
        refine lv_iload_n hx hb dX11_paid_102 rfl (lv_at hl 4 rfl) ?_
        refine lv_iadd hx hb dX11_paid_103 ?_
        obtain ⟨h8, hg⟩ := zck hg
        refine ziald hx hb hK hP 1 0 rfl rfl (j := ((87 + x3).toNatClampNeg)) h8 rfl dX11_paid_104 ?_
        refine lv_imul hx hb dX11_paid_105 ?_
        refine lv_goto (tgt := 110) hx hb dX11_paid_106 (by decide) ?_
        exact B110 k35 hk35 x3 x2 (t0 * (a_M_now ((87 + x3).toNatClampNeg))) v_M_acts v_M_waits v_M_place a_M_held a_M_wait a_M_act a_M_clocks a_M_counts a_M_talking a_M_heap a_M_refused _ _ _ (lv_sub hl [1, 2, 4] rfl) hP hD hS hg
    · have hg := zp hg h81
      refine lv_iload hx hb dX11_paid_84 (lv_at hl 0 rfl) ?_
      refine lv_goto (tgt := 110) hx hb dX11_paid_86 (by decide) ?_
      exact B110 k35 hk35 x3 x2 t0 v_M_acts v_M_waits v_M_place a_M_held a_M_wait a_M_act a_M_clocks a_M_counts a_M_talking a_M_heap a_M_refused _ _ _ (lv_sub hl [1, 2, 4] rfl) hP hD hS hg
  have B35 : ∀  (n : Nat) (x2 : Int32) (x3 : Int32) (v_M_acts : Int32) (v_M_waits : Int32) (v_M_place : Int32) (a_M_held : Nat → Int32) (a_M_wait : Nat → Int32) (a_M_act : Nat → Int32) (a_M_clocks : Nat → Int32) (a_M_counts : Nat → Int32) (a_M_talking : Nat → Int32) (a_M_heap : Nat → Int64) (a_M_refused : Nat → Int32) (H : Heap) (locs : List Loc) (ls : Array Slot) (hl : lv_has ls 5 [(0, .ref q_M), (1, .int x1), (2, .int x2), (3, .int x3)]) (hP : va_P D vwCl (ws_X11_paid cI cJ cZ cA q_M q_M_now q_M_held q_M_wait q_M_act q_M_clocks q_M_counts q_M_talking q_M_heap q_M_refused u_M_images u_M_kept u_M_text u_M_size u_M_sign u_M_manyAbove u_M_manyBelow u_M_above u_M_below u_M_at u_M_begin u_M_kind u_M_value u_M_read u_M_most u_M_hasA u_M_hasB u_M_talks u_M_big v_M_acts v_M_waits v_M_place a_M_now a_M_held a_M_wait a_M_act a_M_clocks a_M_counts a_M_talking a_M_heap a_M_refused) H) (hD : va_D A (ws_X11_paid cI cJ cZ cA q_M q_M_now q_M_held q_M_wait q_M_act q_M_clocks q_M_counts q_M_talking q_M_heap q_M_refused u_M_images u_M_kept u_M_text u_M_size u_M_sign u_M_manyAbove u_M_manyBelow u_M_above u_M_below u_M_at u_M_begin u_M_kind u_M_value u_M_read u_M_most u_M_hasA u_M_hasB u_M_talks u_M_big v_M_acts v_M_waits v_M_place a_M_now a_M_held a_M_wait a_M_act a_M_clocks a_M_counts a_M_talking a_M_heap a_M_refused)) (hS : va_S A s.heap H locs), g_X11_paid_35 a_M_now x1 n x2 x3 v_M_acts v_M_waits v_M_place a_M_held a_M_wait a_M_act a_M_clocks a_M_counts a_M_talking a_M_heap a_M_refused = some o → W p l e rm_X11_paid s m args below meth c H locs 0 0 Q (F0 m 35 ls []) := by
    intro  n
    induction n with
    | zero => intro x2 x3 v_M_acts v_M_waits v_M_place a_M_held a_M_wait a_M_act a_M_clocks a_M_counts a_M_talking a_M_heap a_M_refused H locs ls hl hP hD hS hg; exact nomatch (show (none : Option (Int32 × Int32 × Int32 × Int32 × (Nat → Int32) × (Nat → Int32) × (Nat → Int32) × (Nat → Int32) × (Nat → Int32) × (Nat → Int32) × (Nat → Int64) × (Nat → Int32))) = some o from hg)
    | succ n ih =>
      intro x2 x3 v_M_acts v_M_waits v_M_place a_M_held a_M_wait a_M_act a_M_clocks a_M_counts a_M_talking a_M_heap a_M_refused H locs ls hl hP hD hS hg
      have hg : g_X11_paid_35b a_M_now x1 (g_X11_paid_35 a_M_now x1 n) x2 x3 v_M_acts v_M_waits v_M_place a_M_held a_M_wait a_M_act a_M_clocks a_M_counts a_M_talking a_M_heap a_M_refused = some o := hg
      refine lv_iload_n hx hb dX11_paid_35 rfl (lv_at hl 3 rfl) ?_
      refine lv_aload_n hx hb dX11_paid_36 rfl (lv_at hl 0 rfl) ?_
      refine zget (C := RX11) (T := TX11) (N := 31) S hK hP 0 rfl rfl 0 (Nat.le_of_ble_eq_true rfl) zf_11 zw_149 rfl dX11_paid_37 ?_
      refine lv_iconst (v := 5) hx hb dX11_paid_40 (by decide) ?_
      refine ziald hx hb hK hP 1 0 rfl rfl (j := 5) (zin (by decide)) (by decide) dX11_paid_41 ?_
      refine lv_icmp_ge (tgt := 118) hx hb dX11_paid_42 (by decide) (fun h42 => ?_) (fun h42 => ?_)
      · have hg := zp hg h42
        refine lv_iload_n hx hb dX11_paid_118 rfl (lv_at hl 2 rfl) ?_
        exact hret x2 v_M_acts v_M_waits v_M_place a_M_held a_M_wait a_M_act a_M_clocks a_M_counts a_M_talking a_M_heap a_M_refused hg _ _ _ _ hP hS dX11_paid_119
      · have hg := zn hg h42
        refine lv_aload_n hx hb dX11_paid_45 rfl (lv_at hl 0 rfl) ?_
        refine zget (C := RX11) (T := TX11) (N := 31) S hK hP 0 rfl rfl 23 (Nat.le_of_ble_eq_true rfl) zf_11 zw_162 rfl dX11_paid_46 ?_
        refine lv_aload_n hx hb dX11_paid_49 rfl (lv_at hl 0 rfl) ?_
        refine zget (C := RX11) (T := TX11) (N := 31) S hK hP 0 rfl rfl 0 (Nat.le_of_ble_eq_true rfl) zf_11 zw_149 rfl dX11_paid_50 ?_
        refine lv_bipush (v := 79) hx hb dX11_paid_53 (by decide) ?_
        refine lv_iload_n hx hb dX11_paid_55 rfl (lv_at hl 3 rfl) ?_
        refine lv_iadd hx hb dX11_paid_56 ?_
        obtain ⟨h5, hg⟩ := zck hg
        refine ziald hx hb hK hP 1 0 rfl rfl (j := ((79 + x3).toNatClampNeg)) h5 rfl dX11_paid_57 ?_
        obtain ⟨h6, hg⟩ := zck hg
        refine ziald hx hb hK hP 5 0 rfl rfl (j := ((a_M_now ((79 + x3).toNatClampNeg)).toNatClampNeg)) h6 rfl dX11_paid_58 ?_
        refine lv_aload_n hx hb dX11_paid_59 rfl (lv_at hl 0 rfl) ?_
        refine zget (C := RX11) (T := TX11) (N := 31) S hK hP 0 rfl rfl 0 (Nat.le_of_ble_eq_true rfl) zf_11 zw_149 rfl dX11_paid_60 ?_
        refine lv_bipush (v := 71) hx hb dX11_paid_63 (by decide) ?_
        refine lv_iload_n hx hb dX11_paid_65 rfl (lv_at hl 3 rfl) ?_
        refine lv_iadd hx hb dX11_paid_66 ?_
        obtain ⟨h7, hg⟩ := zck hg
        refine ziald hx hb hK hP 1 0 rfl rfl (j := ((71 + x3).toNatClampNeg)) h7 rfl dX11_paid_67 ?_
        refine lv_icmp_lt (tgt := 75) hx hb dX11_paid_68 (by decide) (fun h68 => ?_) (fun h68 => ?_)
        · have hg := zp hg h68
          refine lv_iconst (v := 0) hx hb dX11_paid_75 (by decide) ?_
          exact B76 (g_X11_paid_35 a_M_now x1 n) ih x2 x3 0 v_M_acts v_M_waits v_M_place a_M_held a_M_wait a_M_act a_M_clocks a_M_counts a_M_talking a_M_heap a_M_refused _ _ _ hl hP hD hS hg
        · have hg := zn hg h68
          refine lv_iconst (v := 1) hx hb dX11_paid_71 (by decide) ?_
          refine lv_goto (tgt := 76) hx hb dX11_paid_72 (by decide) ?_
          exact B76 (g_X11_paid_35 a_M_now x1 n) ih x2 x3 1 v_M_acts v_M_waits v_M_place a_M_held a_M_wait a_M_act a_M_clocks a_M_counts a_M_talking a_M_heap a_M_refused _ _ _ hl hP hD hS hg
  refine lv_iload_n hx hb dX11_paid_0 rfl (lv_at hl 1 rfl) ?_
  refine lv_i2l hx hb dX11_paid_1 rfl ?_
  refine lv_ldc2 (v := (-1)) hx hb S.2.2.2.1 (ht _ zw_470) dX11_paid_2 ?_
  refine lv_aload_n hx hb dX11_paid_5 rfl (lv_at hl 0 rfl) ?_
  refine zget (C := RX11) (T := TX11) (N := 31) S hK hP 0 rfl rfl 0 (Nat.le_of_ble_eq_true rfl) zf_11 zw_149 rfl dX11_paid_6 ?_
  refine lv_iconst (v := 5) hx hb dX11_paid_9 (by decide) ?_
  refine ziald hx hb hK hP 1 0 rfl rfl (j := 5) (zin (by decide)) (by decide) dX11_paid_10 ?_
  refine lv_iconst (v := 1) hx hb dX11_paid_11 (by decide) ?_
  refine lv_isub hx hb dX11_paid_12 ?_
  refine lv_i2l hx hb dX11_paid_13 rfl ?_
  obtain ⟨v1, hc2, hg⟩ := zbd hg
  refine zcallS (rest := []) S (c_X11_in l D cI cJ cZ cA ga x1.toInt64 (-1 : Int64) (((a_M_now 5) - 1).toInt64) v1 hc2) (zgS zw_220 zw_221 zw_5 zw_222) rfl hd_X11_in ⟨rfl, rfl⟩ ⟨Nat.le_of_ble_eq_true rfl, Nat.le_of_ble_eq_true rfl⟩ rfl hl.1 rfl (Nat.le_of_ble_eq_true rfl) dX11_paid_14 hP hD hS hA hK hG (isC := []) rfl rfl rfl (w2 := (ws_X11_paid cI cJ cZ cA q_M q_M_now q_M_held q_M_wait q_M_act q_M_clocks q_M_counts q_M_talking q_M_heap q_M_refused u_M_images u_M_kept u_M_text u_M_size u_M_sign u_M_manyAbove u_M_manyBelow u_M_above u_M_below u_M_at u_M_begin u_M_kind u_M_value u_M_read u_M_most u_M_hasA u_M_hasB u_M_talks u_M_big v_M_acts v_M_waits v_M_place a_M_now a_M_held a_M_wait a_M_act a_M_clocks a_M_counts a_M_talking a_M_heap a_M_refused)) rfl (st1 := [.int v1]) rfl (fun H locs hP hD hS => ?_)
  refine lv_if_ne (tgt := 25) hx hb dX11_paid_17 (by decide) (fun h17 => ?_) (fun h17 => ?_)
  · have hg := zn hg h17
    refine lv_aload_n hx hb dX11_paid_25 rfl (lv_at hl 0 rfl) ?_
    refine lv_bipush (v := 31) hx hb dX11_paid_26 (by decide) ?_
    obtain ⟨v3, hc4, hg⟩ := zbd hg
    refine zcallV (rest := []) S (c_X11_winds l D cI cJ cZ cA ga q_M q_M_held q_M_now q_M_wait q_M_act q_M_clocks q_M_counts q_M_talking q_M_heap u_M_images u_M_kept u_M_text u_M_size u_M_sign u_M_manyAbove u_M_manyBelow u_M_above u_M_below (.ref q_M_refused) u_M_at u_M_begin u_M_kind u_M_value u_M_read u_M_most u_M_hasA u_M_hasB u_M_talks u_M_big v_M_acts v_M_waits v_M_place a_M_held a_M_now a_M_wait a_M_act a_M_clocks a_M_counts a_M_talking a_M_heap 31 v3 hc4) (zgV zw_678 zw_679 zw_680 zw_5 zw_681) rfl hd_X11_winds ⟨rfl, rfl⟩ ⟨Nat.le_of_ble_eq_true rfl, Nat.le_of_ble_eq_true rfl⟩ 0 11 rfl rfl rfl hl.1 rfl (Nat.le_of_ble_eq_true rfl) dX11_paid_28 hP hD hS hA hK hG (isC := [0, 2, 1, 3, 4, 5, 6, 7, 8]) rfl rfl rfl (w2 := (ws_X11_paid cI cJ cZ cA q_M q_M_now q_M_held q_M_wait q_M_act q_M_clocks q_M_counts q_M_talking q_M_heap q_M_refused u_M_images u_M_kept u_M_text u_M_size u_M_sign u_M_manyAbove u_M_manyBelow u_M_above u_M_below u_M_at u_M_begin u_M_kind u_M_value u_M_read u_M_most u_M_hasA u_M_hasB u_M_talks u_M_big v3.1 v3.2.1 v3.2.2.1 a_M_now v3.2.2.2.1 v3.2.2.2.2.1 v3.2.2.2.2.2.1 v3.2.2.2.2.2.2.1 v3.2.2.2.2.2.2.2.1 v3.2.2.2.2.2.2.2.2.1 v3.2.2.2.2.2.2.2.2.2 a_M_refused)) rfl (st1 := []) rfl (fun H locs hP hD hS => ?_)
    refine lv_iconst (v := 0) hx hb dX11_paid_31 (by decide) ?_
    refine lv_istore_n (lv' := [(2, .int 0), (0, .ref q_M), (1, .int x1)]) hx hb dX11_paid_32 rfl hl (by decide) rfl (fun ls hl => ?_)
    refine lv_iconst (v := 0) hx hb dX11_paid_33 (by decide) ?_
    refine lv_istore_n (lv' := [(3, .int 0), (2, .int 0), (0, .ref q_M), (1, .int x1)]) hx hb dX11_paid_34 rfl hl (by decide) rfl (fun ls hl => ?_)
    exact B35 zF 0 0 v3.1 v3.2.1 v3.2.2.1 v3.2.2.2.1 v3.2.2.2.2.1 v3.2.2.2.2.2.1 v3.2.2.2.2.2.2.1 v3.2.2.2.2.2.2.2.1 v3.2.2.2.2.2.2.2.2.1 v3.2.2.2.2.2.2.2.2.2 a_M_refused _ _ _ (lv_sub hl [2, 3, 1, 0] rfl) hP hD hS hg
  · have hg := zp hg h17
    refine lv_aload_n hx hb dX11_paid_20 rfl (lv_at hl 0 rfl) ?_
    obtain ⟨v9, hc10, hg⟩ := zbd hg
    refine zcallV (rest := []) S (c_X11_worse l D cI cJ cZ cA ga q_M q_M_refused (.ref q_M_now) u_M_images u_M_kept u_M_text u_M_size u_M_sign u_M_manyAbove u_M_manyBelow u_M_above u_M_below u_M_at u_M_begin u_M_kind u_M_value u_M_read (.int v_M_acts) (.ref q_M_act) (.int v_M_waits) (.ref q_M_wait) (.ref q_M_held) (.int v_M_place) (.ref q_M_heap) (.ref q_M_clocks) (.ref q_M_counts) (.ref q_M_talking) u_M_most u_M_hasA u_M_hasB u_M_talks u_M_big a_M_refused v9 hc10) (zgV zw_769 zw_770 zw_771 zw_5 zw_772) rfl hd_X11_worse ⟨rfl, rfl⟩ ⟨Nat.le_of_ble_eq_true rfl, Nat.le_of_ble_eq_true rfl⟩ 0 11 rfl rfl rfl hl.1 rfl (Nat.le_of_ble_eq_true rfl) dX11_paid_21 hP hD hS hA hK hG (isC := [0, 9]) rfl rfl rfl (w2 := (ws_X11_paid cI cJ cZ cA q_M q_M_now q_M_held q_M_wait q_M_act q_M_clocks q_M_counts q_M_talking q_M_heap q_M_refused u_M_images u_M_kept u_M_text u_M_size u_M_sign u_M_manyAbove u_M_manyBelow u_M_above u_M_below u_M_at u_M_begin u_M_kind u_M_value u_M_read u_M_most u_M_hasA u_M_hasB u_M_talks u_M_big v_M_acts v_M_waits v_M_place a_M_now a_M_held a_M_wait a_M_act a_M_clocks a_M_counts a_M_talking a_M_heap v9.2)) rfl (st1 := [.int v9.1]) rfl (fun H locs hP hD hS => ?_)
    exact hret v9.1 v_M_acts v_M_waits v_M_place a_M_held a_M_wait a_M_act a_M_clocks a_M_counts a_M_talking a_M_heap v9.2 hg _ _ _ _ hP hS dX11_paid_24

/-! SpokenClockModel.plans(I)V -/
abbrev ws_X11_plans (cI cJ cZ cA : ClassId) (q_M q_M_now q_M_most : Nat) (u_M_images : Value) (u_M_kept : Value) (u_M_text : Value) (u_M_size : Value) (u_M_sign : Value) (u_M_manyAbove : Value) (u_M_manyBelow : Value) (u_M_above : Value) (u_M_below : Value) (u_M_refused : Value) (u_M_at : Value) (u_M_begin : Value) (u_M_kind : Value) (u_M_value : Value) (u_M_read : Value) (u_M_acts : Value) (u_M_act : Value) (u_M_waits : Value) (u_M_wait : Value) (u_M_held : Value) (u_M_place : Value) (u_M_heap : Value) (u_M_clocks : Value) (u_M_counts : Value) (u_M_talking : Value) (u_M_hasA : Value) (u_M_hasB : Value) (u_M_talks : Value) (u_M_big : Value) (a_M_now : Nat → Int32) (a_M_most : Nat → Int32) : va_W := [(q_M, .inr (11, [.ref q_M_now, u_M_images, u_M_kept, u_M_text, u_M_size, u_M_sign, u_M_manyAbove, u_M_manyBelow, u_M_above, u_M_below, u_M_refused, u_M_at, u_M_begin, u_M_kind, u_M_value, u_M_read, u_M_acts, u_M_act, u_M_waits, u_M_wait, u_M_held, u_M_place, u_M_heap, u_M_clocks, u_M_counts, u_M_talking, .ref q_M_most, u_M_hasA, u_M_hasB, u_M_talks, u_M_big])), (q_M_now, .inl (cI, 155, .inl a_M_now)), (q_M_most, .inl (cI, 10000, .inl a_M_most))]
abbrev rm_X11_plans : Room := { frames := 0, cells := 0, slots := 0, locals := 0 }
def g_X11_plans_160 (a_M_now : Nat → Int32) (x1 : Int32) (k3 : Int32 → (Nat → Int32) → Option ((Nat → Int32))) (k9 : Int32 → Int32 → (Nat → Int32) → Option ((Nat → Int32))) (k105 : Int32 → Int32 → Int32 → Int32 → (Nat → Int32) → Option ((Nat → Int32))) (x2 : Int32) (x3 : Int32) (x5 : Int32) (t0 : Int32) (t1 : Int32) (a_M_most : Nat → Int32) : Option ((Nat → Int32)) :=
  k105 x2 x3 (t0 + t1) (x5 + 1) a_M_most
def g_X11_plans_159 (a_M_now : Nat → Int32) (x1 : Int32) (k3 : Int32 → (Nat → Int32) → Option ((Nat → Int32))) (k9 : Int32 → Int32 → (Nat → Int32) → Option ((Nat → Int32))) (k105 : Int32 → Int32 → Int32 → Int32 → (Nat → Int32) → Option ((Nat → Int32))) (x2 : Int32) (x3 : Int32) (x5 : Int32) (t0 : Int32) (a_M_most : Nat → Int32) : Option ((Nat → Int32)) :=
  g_X11_plans_160 a_M_now x1 k3 k9 k105 x2 x3 x5 t0 0 a_M_most
def g_X11_plans_105b (a_M_now : Nat → Int32) (x1 : Int32) (k3 : Int32 → (Nat → Int32) → Option ((Nat → Int32))) (k9 : Int32 → Int32 → (Nat → Int32) → Option ((Nat → Int32))) (k105 : Int32 → Int32 → Int32 → Int32 → (Nat → Int32) → Option ((Nat → Int32))) (x2 : Int32) (x3 : Int32) (x4 : Int32) (x5 : Int32) (a_M_most : Nat → Int32) : Option ((Nat → Int32)) :=
  if (a_M_now 5) ≤ x5 then (
    if ((100 * x2) + x3) < 0 ∨ 10000 ≤ ((100 * x2) + x3).toNatClampNeg then none else
    k9 x2 (x3 + 1) (upd a_M_most (((100 * x2) + x3).toNatClampNeg) x4)
  ) else (
    if (79 + x5) < 0 ∨ 155 ≤ (79 + x5).toNatClampNeg then none else
    if (a_M_now ((79 + x5).toNatClampNeg)) = x2 then (
      if (71 + x5) < 0 ∨ 155 ≤ (71 + x5).toNatClampNeg then none else
      if x3 < (a_M_now ((71 + x5).toNatClampNeg)) then (
        g_X11_plans_159 a_M_now x1 k3 k9 k105 x2 x3 x5 x4 a_M_most
      ) else (
        if (87 + x5) < 0 ∨ 155 ≤ (87 + x5).toNatClampNeg then none else
        g_X11_plans_160 a_M_now x1 k3 k9 k105 x2 x3 x5 x4 (a_M_now ((87 + x5).toNatClampNeg)) a_M_most
      )
    ) else (
      g_X11_plans_159 a_M_now x1 k3 k9 k105 x2 x3 x5 x4 a_M_most
    )
  )
def g_X11_plans_105 (a_M_now : Nat → Int32) (x1 : Int32) (k3 : Int32 → (Nat → Int32) → Option ((Nat → Int32))) (k9 : Int32 → Int32 → (Nat → Int32) → Option ((Nat → Int32))) : Nat → Int32 → Int32 → Int32 → Int32 → (Nat → Int32) → Option ((Nat → Int32))
  | 0, _, _, _, _, _ => none
  | n + 1, x2, x3, x4, x5, a_M_most => g_X11_plans_105b a_M_now x1 k3 k9 (g_X11_plans_105 a_M_now x1 k3 k9 n) x2 x3 x4 x5 a_M_most
def g_X11_plans_102 (a_M_now : Nat → Int32) (x1 : Int32) (k3 : Int32 → (Nat → Int32) → Option ((Nat → Int32))) (k9 : Int32 → Int32 → (Nat → Int32) → Option ((Nat → Int32))) (x2 : Int32) (x3 : Int32) (x4 : Int32) (a_M_most : Nat → Int32) : Option ((Nat → Int32)) :=
  g_X11_plans_105 a_M_now x1 k3 k9 zF x2 x3 x4 0 a_M_most
def g_X11_plans_94 (a_M_now : Nat → Int32) (x1 : Int32) (k3 : Int32 → (Nat → Int32) → Option ((Nat → Int32))) (k9 : Int32 → Int32 → (Nat → Int32) → Option ((Nat → Int32))) (k21 : Int32 → Int32 → Int32 → Int32 → (Nat → Int32) → Option ((Nat → Int32))) (x2 : Int32) (x3 : Int32) (x5 : Int32) (t0 : Int32) (a_M_most : Nat → Int32) : Option ((Nat → Int32)) :=
  k21 x2 x3 t0 (x5 + 1) a_M_most
def g_X11_plans_87 (a_M_now : Nat → Int32) (x1 : Int32) (k3 : Int32 → (Nat → Int32) → Option ((Nat → Int32))) (k9 : Int32 → Int32 → (Nat → Int32) → Option ((Nat → Int32))) (k21 : Int32 → Int32 → Int32 → Int32 → (Nat → Int32) → Option ((Nat → Int32))) (x2 : Int32) (x3 : Int32) (x5 : Int32) (x6 : Int32) (a_M_most : Nat → Int32) : Option ((Nat → Int32)) :=
  g_X11_plans_94 a_M_now x1 k3 k9 k21 x2 x3 x5 x6 a_M_most
def g_X11_plans_66 (a_M_now : Nat → Int32) (x1 : Int32) (k3 : Int32 → (Nat → Int32) → Option ((Nat → Int32))) (k9 : Int32 → Int32 → (Nat → Int32) → Option ((Nat → Int32))) (k21 : Int32 → Int32 → Int32 → Int32 → (Nat → Int32) → Option ((Nat → Int32))) (x2 : Int32) (x3 : Int32) (x4 : Int32) (x5 : Int32) (t1 : Int32) (t2 : Int32) (a_M_most : Nat → Int32) : Option ((Nat → Int32)) :=
  if (t1 + t2) < 0 ∨ 10000 ≤ (t1 + t2).toNatClampNeg then none else
  if x5 = 0 then (
    g_X11_plans_87 a_M_now x1 k3 k9 k21 x2 x3 x5 ((a_M_most ((t1 + t2).toNatClampNeg)) - (x1 * x5)) a_M_most
  ) else (
    if ((a_M_most ((t1 + t2).toNatClampNeg)) - (x1 * x5)) ≤ x4 then (
      g_X11_plans_94 a_M_now x1 k3 k9 k21 x2 x3 x5 x4 a_M_most
    ) else (
      g_X11_plans_87 a_M_now x1 k3 k9 k21 x2 x3 x5 ((a_M_most ((t1 + t2).toNatClampNeg)) - (x1 * x5)) a_M_most
    )
  )
def g_X11_plans_21b (a_M_now : Nat → Int32) (x1 : Int32) (k3 : Int32 → (Nat → Int32) → Option ((Nat → Int32))) (k9 : Int32 → Int32 → (Nat → Int32) → Option ((Nat → Int32))) (k21 : Int32 → Int32 → Int32 → Int32 → (Nat → Int32) → Option ((Nat → Int32))) (x2 : Int32) (x3 : Int32) (x4 : Int32) (x5 : Int32) (a_M_most : Nat → Int32) : Option ((Nat → Int32)) :=
  if (a_M_now 0) < x5 then (
    g_X11_plans_102 a_M_now x1 k3 k9 x2 x3 x4 a_M_most
  ) else (
    if 99 ≤ x2 then (
      g_X11_plans_102 a_M_now x1 k3 k9 x2 x3 x4 a_M_most
    ) else (
      if 99 ≤ (x3 + x5) then (
        g_X11_plans_66 a_M_now x1 k3 k9 k21 x2 x3 x4 x5 (100 * (x2 + 1)) 99 a_M_most
      ) else (
        g_X11_plans_66 a_M_now x1 k3 k9 k21 x2 x3 x4 x5 (100 * (x2 + 1)) (x3 + x5) a_M_most
      )
    )
  )
def g_X11_plans_21 (a_M_now : Nat → Int32) (x1 : Int32) (k3 : Int32 → (Nat → Int32) → Option ((Nat → Int32))) (k9 : Int32 → Int32 → (Nat → Int32) → Option ((Nat → Int32))) : Nat → Int32 → Int32 → Int32 → Int32 → (Nat → Int32) → Option ((Nat → Int32))
  | 0, _, _, _, _, _ => none
  | n + 1, x2, x3, x4, x5, a_M_most => g_X11_plans_21b a_M_now x1 k3 k9 (g_X11_plans_21 a_M_now x1 k3 k9 n) x2 x3 x4 x5 a_M_most
def g_X11_plans_9b (a_M_now : Nat → Int32) (x1 : Int32) (k3 : Int32 → (Nat → Int32) → Option ((Nat → Int32))) (k9 : Int32 → Int32 → (Nat → Int32) → Option ((Nat → Int32))) (x2 : Int32) (x3 : Int32) (a_M_most : Nat → Int32) : Option ((Nat → Int32)) :=
  if 100 ≤ x3 then (
    k3 (x2 + (-1)) a_M_most
  ) else (
    g_X11_plans_21 a_M_now x1 k3 k9 zF x2 x3 0 0 a_M_most
  )
def g_X11_plans_9 (a_M_now : Nat → Int32) (x1 : Int32) (k3 : Int32 → (Nat → Int32) → Option ((Nat → Int32))) : Nat → Int32 → Int32 → (Nat → Int32) → Option ((Nat → Int32))
  | 0, _, _, _ => none
  | n + 1, x2, x3, a_M_most => g_X11_plans_9b a_M_now x1 k3 (g_X11_plans_9 a_M_now x1 k3 n) x2 x3 a_M_most
def g_X11_plans_3b (a_M_now : Nat → Int32) (x1 : Int32) (k3 : Int32 → (Nat → Int32) → Option ((Nat → Int32))) (x2 : Int32) (a_M_most : Nat → Int32) : Option ((Nat → Int32)) :=
  if x2 < 0 then (
    some (a_M_most)
  ) else (
    g_X11_plans_9 a_M_now x1 k3 zF x2 0 a_M_most
  )
def g_X11_plans_3 (a_M_now : Nat → Int32) (x1 : Int32) : Nat → Int32 → (Nat → Int32) → Option ((Nat → Int32))
  | 0, _, _ => none
  | n + 1, x2, a_M_most => g_X11_plans_3b a_M_now x1 (g_X11_plans_3 a_M_now x1 n) x2 a_M_most
def g_X11_plans (a_M_now : Nat → Int32) (x1 : Int32) (a_M_most : Nat → Int32) : Option ((Nat → Int32)) :=
  g_X11_plans_3 a_M_now x1 zF 99 a_M_most
theorem hd_X11_plans : yX11_plans.cls = RX11 ∧ yX11_plans.cls ≠ "java/lang/invoke/MethodHandle" ∧ yX11_plans.cls ≠ "java/lang/invoke/VarHandle" ∧ (parseMethodDescriptor yX11_plans.desc).map (fun d => d.parameters.length) = some 1 := by decide +kernel
set_option maxHeartbeats 4000000 in
set_option maxRecDepth 100000 in
theorem c_X11_plans (l : Launch) (D : va_G) (cI cJ cZ cA : ClassId) (ga : Nat → Nat) (q_M q_M_now q_M_most : Nat) (u_M_images : Value) (u_M_kept : Value) (u_M_text : Value) (u_M_size : Value) (u_M_sign : Value) (u_M_manyAbove : Value) (u_M_manyBelow : Value) (u_M_above : Value) (u_M_below : Value) (u_M_refused : Value) (u_M_at : Value) (u_M_begin : Value) (u_M_kind : Value) (u_M_value : Value) (u_M_read : Value) (u_M_acts : Value) (u_M_act : Value) (u_M_waits : Value) (u_M_wait : Value) (u_M_held : Value) (u_M_place : Value) (u_M_heap : Value) (u_M_clocks : Value) (u_M_counts : Value) (u_M_talking : Value) (u_M_hasA : Value) (u_M_hasB : Value) (u_M_talks : Value) (u_M_big : Value) (a_M_now : Nat → Int32) (a_M_most : Nat → Int32) (x1 : Int32) (o : (Nat → Int32)) (hg : g_X11_plans a_M_now x1 a_M_most = some o) : zM l yX11_plans (Cond.code yX11_plans cX11_plans 7 none :: wsL_law) rm_X11_plans D (zTy cI cJ cZ cA) ga [.ref q_M, .int x1] (ws_X11_plans cI cJ cZ cA q_M q_M_now q_M_most u_M_images u_M_kept u_M_text u_M_size u_M_sign u_M_manyAbove u_M_manyBelow u_M_above u_M_below u_M_refused u_M_at u_M_begin u_M_kind u_M_value u_M_read u_M_acts u_M_act u_M_waits u_M_wait u_M_held u_M_place u_M_heap u_M_clocks u_M_counts u_M_talking u_M_hasA u_M_hasB u_M_talks u_M_big a_M_now a_M_most) (ws_X11_plans cI cJ cZ cA q_M q_M_now q_M_most u_M_images u_M_kept u_M_text u_M_size u_M_sign u_M_manyAbove u_M_manyBelow u_M_above u_M_below u_M_refused u_M_at u_M_begin u_M_kind u_M_value u_M_read u_M_acts u_M_act u_M_waits u_M_wait u_M_held u_M_place u_M_heap u_M_clocks u_M_counts u_M_talking u_M_hasA u_M_hasB u_M_talks u_M_big a_M_now o) none := by
  refine zenterV (own := RX11) (by decide) rfl rfl (Nat.le_of_ble_eq_true rfl) ?_
  intro p e s m args below meth c A ls Q S hA hK hG hl hP hD hS hret0
  have hx := S.1
  have hb := S.2.1
  have ht : ∀ w, w ∈ wsL_law → w.before args s = true := fun w h => S.2.2.2.2 w (List.mem_cons_of_mem _ h)
  have hret : ∀ (a_M_most : Nat → Int32), (some (a_M_most) : Option ((Nat → Int32))) = some o → ∀ (H : Heap) (locs : List Loc) (pc : Nat) (ls : Array Slot), va_P D vwCl (ws_X11_plans cI cJ cZ cA q_M q_M_now q_M_most u_M_images u_M_kept u_M_text u_M_size u_M_sign u_M_manyAbove u_M_manyBelow u_M_above u_M_below u_M_refused u_M_at u_M_begin u_M_kind u_M_value u_M_read u_M_acts u_M_act u_M_waits u_M_wait u_M_held u_M_place u_M_heap u_M_clocks u_M_counts u_M_talking u_M_hasA u_M_hasB u_M_talks u_M_big a_M_now a_M_most) H → va_S A s.heap H locs → decode cX11_plans pc = .ok (.return_, 1) → W p l e rm_X11_plans s m args below meth c H locs 0 0 Q (F0 m pc ls []) := by
    intro a_M_most he; cases he; exact hret0
  have hl : lv_has ls 7 [(0, .ref q_M), (1, .int x1)] := hl
  have B160 : ∀ (k3 : Int32 → (Nat → Int32) → Option ((Nat → Int32))) (hk3 : ∀ (x2 : Int32) (a_M_most : Nat → Int32) (H : Heap) (locs : List Loc) (ls : Array Slot) (hl : lv_has ls 7 [(0, .ref q_M), (1, .int x1), (2, .int x2)]) (hP : va_P D vwCl (ws_X11_plans cI cJ cZ cA q_M q_M_now q_M_most u_M_images u_M_kept u_M_text u_M_size u_M_sign u_M_manyAbove u_M_manyBelow u_M_above u_M_below u_M_refused u_M_at u_M_begin u_M_kind u_M_value u_M_read u_M_acts u_M_act u_M_waits u_M_wait u_M_held u_M_place u_M_heap u_M_clocks u_M_counts u_M_talking u_M_hasA u_M_hasB u_M_talks u_M_big a_M_now a_M_most) H) (hD : va_D A (ws_X11_plans cI cJ cZ cA q_M q_M_now q_M_most u_M_images u_M_kept u_M_text u_M_size u_M_sign u_M_manyAbove u_M_manyBelow u_M_above u_M_below u_M_refused u_M_at u_M_begin u_M_kind u_M_value u_M_read u_M_acts u_M_act u_M_waits u_M_wait u_M_held u_M_place u_M_heap u_M_clocks u_M_counts u_M_talking u_M_hasA u_M_hasB u_M_talks u_M_big a_M_now a_M_most)) (hS : va_S A s.heap H locs), k3 x2 a_M_most = some o → W p l e rm_X11_plans s m args below meth c H locs 0 0 Q (F0 m 3 ls [])) (k9 : Int32 → Int32 → (Nat → Int32) → Option ((Nat → Int32))) (hk9 : ∀ (x2 : Int32) (x3 : Int32) (a_M_most : Nat → Int32) (H : Heap) (locs : List Loc) (ls : Array Slot) (hl : lv_has ls 7 [(0, .ref q_M), (1, .int x1), (2, .int x2), (3, .int x3)]) (hP : va_P D vwCl (ws_X11_plans cI cJ cZ cA q_M q_M_now q_M_most u_M_images u_M_kept u_M_text u_M_size u_M_sign u_M_manyAbove u_M_manyBelow u_M_above u_M_below u_M_refused u_M_at u_M_begin u_M_kind u_M_value u_M_read u_M_acts u_M_act u_M_waits u_M_wait u_M_held u_M_place u_M_heap u_M_clocks u_M_counts u_M_talking u_M_hasA u_M_hasB u_M_talks u_M_big a_M_now a_M_most) H) (hD : va_D A (ws_X11_plans cI cJ cZ cA q_M q_M_now q_M_most u_M_images u_M_kept u_M_text u_M_size u_M_sign u_M_manyAbove u_M_manyBelow u_M_above u_M_below u_M_refused u_M_at u_M_begin u_M_kind u_M_value u_M_read u_M_acts u_M_act u_M_waits u_M_wait u_M_held u_M_place u_M_heap u_M_clocks u_M_counts u_M_talking u_M_hasA u_M_hasB u_M_talks u_M_big a_M_now a_M_most)) (hS : va_S A s.heap H locs), k9 x2 x3 a_M_most = some o → W p l e rm_X11_plans s m args below meth c H locs 0 0 Q (F0 m 9 ls [])) (k105 : Int32 → Int32 → Int32 → Int32 → (Nat → Int32) → Option ((Nat → Int32))) (hk105 : ∀ (x2 : Int32) (x3 : Int32) (x4 : Int32) (x5 : Int32) (a_M_most : Nat → Int32) (H : Heap) (locs : List Loc) (ls : Array Slot) (hl : lv_has ls 7 [(0, .ref q_M), (1, .int x1), (2, .int x2), (3, .int x3), (4, .int x4), (5, .int x5)]) (hP : va_P D vwCl (ws_X11_plans cI cJ cZ cA q_M q_M_now q_M_most u_M_images u_M_kept u_M_text u_M_size u_M_sign u_M_manyAbove u_M_manyBelow u_M_above u_M_below u_M_refused u_M_at u_M_begin u_M_kind u_M_value u_M_read u_M_acts u_M_act u_M_waits u_M_wait u_M_held u_M_place u_M_heap u_M_clocks u_M_counts u_M_talking u_M_hasA u_M_hasB u_M_talks u_M_big a_M_now a_M_most) H) (hD : va_D A (ws_X11_plans cI cJ cZ cA q_M q_M_now q_M_most u_M_images u_M_kept u_M_text u_M_size u_M_sign u_M_manyAbove u_M_manyBelow u_M_above u_M_below u_M_refused u_M_at u_M_begin u_M_kind u_M_value u_M_read u_M_acts u_M_act u_M_waits u_M_wait u_M_held u_M_place u_M_heap u_M_clocks u_M_counts u_M_talking u_M_hasA u_M_hasB u_M_talks u_M_big a_M_now a_M_most)) (hS : va_S A s.heap H locs), k105 x2 x3 x4 x5 a_M_most = some o → W p l e rm_X11_plans s m args below meth c H locs 0 0 Q (F0 m 105 ls [])) (x2 : Int32) (x3 : Int32) (x5 : Int32) (t0 : Int32) (t1 : Int32) (a_M_most : Nat → Int32) (H : Heap) (locs : List Loc) (ls : Array Slot) (hl : lv_has ls 7 [(0, .ref q_M), (1, .int x1), (2, .int x2), (3, .int x3), (5, .int x5)]) (hP : va_P D vwCl (ws_X11_plans cI cJ cZ cA q_M q_M_now q_M_most u_M_images u_M_kept u_M_text u_M_size u_M_sign u_M_manyAbove u_M_manyBelow u_M_above u_M_below u_M_refused u_M_at u_M_begin u_M_kind u_M_value u_M_read u_M_acts u_M_act u_M_waits u_M_wait u_M_held u_M_place u_M_heap u_M_clocks u_M_counts u_M_talking u_M_hasA u_M_hasB u_M_talks u_M_big a_M_now a_M_most) H) (hD : va_D A (ws_X11_plans cI cJ cZ cA q_M q_M_now q_M_most u_M_images u_M_kept u_M_text u_M_size u_M_sign u_M_manyAbove u_M_manyBelow u_M_above u_M_below u_M_refused u_M_at u_M_begin u_M_kind u_M_value u_M_read u_M_acts u_M_act u_M_waits u_M_wait u_M_held u_M_place u_M_heap u_M_clocks u_M_counts u_M_talking u_M_hasA u_M_hasB u_M_talks u_M_big a_M_now a_M_most)) (hS : va_S A s.heap H locs), g_X11_plans_160 a_M_now x1 k3 k9 k105 x2 x3 x5 t0 t1 a_M_most = some o → W p l e rm_X11_plans s m args below meth c H locs 0 0 Q (F0 m 160 ls [.int t1, .int t0]) := by
    intro k3 hk3 k9 hk9 k105 hk105 x2 x3 x5 t0 t1 a_M_most H locs ls hl hP hD hS hg
    refine lv_iadd hx hb dX11_plans_160 ?_
    refine lv_istore (lv' := [(4, .int (t0 + t1)), (0, .ref q_M), (1, .int x1), (2, .int x2), (3, .int x3), (5, .int x5)]) hx hb dX11_plans_161 hl (by decide) rfl (fun ls hl => ?_)
    refine lv_iinc (k := 5) (v := x5 + 1) (lv' := [(5, .int (x5 + 1)), (4, .int (t0 + t1)), (0, .ref q_M), (1, .int x1), (2, .int x2), (3, .int x3)]) hx hb dX11_plans_163 hl rfl (zinc (by decide)) (by decide) rfl (fun ls hl => ?_)
    refine lv_goto (tgt := 105) hx hb dX11_plans_166 (by decide) ?_
    exact hk105 x2 x3 (t0 + t1) (x5 + 1) a_M_most _ _ _ (lv_sub hl [2, 3, 4, 5, 1, 0] rfl) hP hD hS hg
  have B159 : ∀ (k3 : Int32 → (Nat → Int32) → Option ((Nat → Int32))) (hk3 : ∀ (x2 : Int32) (a_M_most : Nat → Int32) (H : Heap) (locs : List Loc) (ls : Array Slot) (hl : lv_has ls 7 [(0, .ref q_M), (1, .int x1), (2, .int x2)]) (hP : va_P D vwCl (ws_X11_plans cI cJ cZ cA q_M q_M_now q_M_most u_M_images u_M_kept u_M_text u_M_size u_M_sign u_M_manyAbove u_M_manyBelow u_M_above u_M_below u_M_refused u_M_at u_M_begin u_M_kind u_M_value u_M_read u_M_acts u_M_act u_M_waits u_M_wait u_M_held u_M_place u_M_heap u_M_clocks u_M_counts u_M_talking u_M_hasA u_M_hasB u_M_talks u_M_big a_M_now a_M_most) H) (hD : va_D A (ws_X11_plans cI cJ cZ cA q_M q_M_now q_M_most u_M_images u_M_kept u_M_text u_M_size u_M_sign u_M_manyAbove u_M_manyBelow u_M_above u_M_below u_M_refused u_M_at u_M_begin u_M_kind u_M_value u_M_read u_M_acts u_M_act u_M_waits u_M_wait u_M_held u_M_place u_M_heap u_M_clocks u_M_counts u_M_talking u_M_hasA u_M_hasB u_M_talks u_M_big a_M_now a_M_most)) (hS : va_S A s.heap H locs), k3 x2 a_M_most = some o → W p l e rm_X11_plans s m args below meth c H locs 0 0 Q (F0 m 3 ls [])) (k9 : Int32 → Int32 → (Nat → Int32) → Option ((Nat → Int32))) (hk9 : ∀ (x2 : Int32) (x3 : Int32) (a_M_most : Nat → Int32) (H : Heap) (locs : List Loc) (ls : Array Slot) (hl : lv_has ls 7 [(0, .ref q_M), (1, .int x1), (2, .int x2), (3, .int x3)]) (hP : va_P D vwCl (ws_X11_plans cI cJ cZ cA q_M q_M_now q_M_most u_M_images u_M_kept u_M_text u_M_size u_M_sign u_M_manyAbove u_M_manyBelow u_M_above u_M_below u_M_refused u_M_at u_M_begin u_M_kind u_M_value u_M_read u_M_acts u_M_act u_M_waits u_M_wait u_M_held u_M_place u_M_heap u_M_clocks u_M_counts u_M_talking u_M_hasA u_M_hasB u_M_talks u_M_big a_M_now a_M_most) H) (hD : va_D A (ws_X11_plans cI cJ cZ cA q_M q_M_now q_M_most u_M_images u_M_kept u_M_text u_M_size u_M_sign u_M_manyAbove u_M_manyBelow u_M_above u_M_below u_M_refused u_M_at u_M_begin u_M_kind u_M_value u_M_read u_M_acts u_M_act u_M_waits u_M_wait u_M_held u_M_place u_M_heap u_M_clocks u_M_counts u_M_talking u_M_hasA u_M_hasB u_M_talks u_M_big a_M_now a_M_most)) (hS : va_S A s.heap H locs), k9 x2 x3 a_M_most = some o → W p l e rm_X11_plans s m args below meth c H locs 0 0 Q (F0 m 9 ls [])) (k105 : Int32 → Int32 → Int32 → Int32 → (Nat → Int32) → Option ((Nat → Int32))) (hk105 : ∀ (x2 : Int32) (x3 : Int32) (x4 : Int32) (x5 : Int32) (a_M_most : Nat → Int32) (H : Heap) (locs : List Loc) (ls : Array Slot) (hl : lv_has ls 7 [(0, .ref q_M), (1, .int x1), (2, .int x2), (3, .int x3), (4, .int x4), (5, .int x5)]) (hP : va_P D vwCl (ws_X11_plans cI cJ cZ cA q_M q_M_now q_M_most u_M_images u_M_kept u_M_text u_M_size u_M_sign u_M_manyAbove u_M_manyBelow u_M_above u_M_below u_M_refused u_M_at u_M_begin u_M_kind u_M_value u_M_read u_M_acts u_M_act u_M_waits u_M_wait u_M_held u_M_place u_M_heap u_M_clocks u_M_counts u_M_talking u_M_hasA u_M_hasB u_M_talks u_M_big a_M_now a_M_most) H) (hD : va_D A (ws_X11_plans cI cJ cZ cA q_M q_M_now q_M_most u_M_images u_M_kept u_M_text u_M_size u_M_sign u_M_manyAbove u_M_manyBelow u_M_above u_M_below u_M_refused u_M_at u_M_begin u_M_kind u_M_value u_M_read u_M_acts u_M_act u_M_waits u_M_wait u_M_held u_M_place u_M_heap u_M_clocks u_M_counts u_M_talking u_M_hasA u_M_hasB u_M_talks u_M_big a_M_now a_M_most)) (hS : va_S A s.heap H locs), k105 x2 x3 x4 x5 a_M_most = some o → W p l e rm_X11_plans s m args below meth c H locs 0 0 Q (F0 m 105 ls [])) (x2 : Int32) (x3 : Int32) (x5 : Int32) (t0 : Int32) (a_M_most : Nat → Int32) (H : Heap) (locs : List Loc) (ls : Array Slot) (hl : lv_has ls 7 [(0, .ref q_M), (1, .int x1), (2, .int x2), (3, .int x3), (5, .int x5)]) (hP : va_P D vwCl (ws_X11_plans cI cJ cZ cA q_M q_M_now q_M_most u_M_images u_M_kept u_M_text u_M_size u_M_sign u_M_manyAbove u_M_manyBelow u_M_above u_M_below u_M_refused u_M_at u_M_begin u_M_kind u_M_value u_M_read u_M_acts u_M_act u_M_waits u_M_wait u_M_held u_M_place u_M_heap u_M_clocks u_M_counts u_M_talking u_M_hasA u_M_hasB u_M_talks u_M_big a_M_now a_M_most) H) (hD : va_D A (ws_X11_plans cI cJ cZ cA q_M q_M_now q_M_most u_M_images u_M_kept u_M_text u_M_size u_M_sign u_M_manyAbove u_M_manyBelow u_M_above u_M_below u_M_refused u_M_at u_M_begin u_M_kind u_M_value u_M_read u_M_acts u_M_act u_M_waits u_M_wait u_M_held u_M_place u_M_heap u_M_clocks u_M_counts u_M_talking u_M_hasA u_M_hasB u_M_talks u_M_big a_M_now a_M_most)) (hS : va_S A s.heap H locs), g_X11_plans_159 a_M_now x1 k3 k9 k105 x2 x3 x5 t0 a_M_most = some o → W p l e rm_X11_plans s m args below meth c H locs 0 0 Q (F0 m 159 ls [.int t0]) := by
    intro k3 hk3 k9 hk9 k105 hk105 x2 x3 x5 t0 a_M_most H locs ls hl hP hD hS hg
    refine lv_iconst (v := 0) hx hb dX11_plans_159 (by decide) ?_
    exact B160 k3 hk3 k9 hk9 k105 hk105 x2 x3 x5 t0 0 a_M_most _ _ _ hl hP hD hS hg
  have B105 : ∀ (k3 : Int32 → (Nat → Int32) → Option ((Nat → Int32))) (hk3 : ∀ (x2 : Int32) (a_M_most : Nat → Int32) (H : Heap) (locs : List Loc) (ls : Array Slot) (hl : lv_has ls 7 [(0, .ref q_M), (1, .int x1), (2, .int x2)]) (hP : va_P D vwCl (ws_X11_plans cI cJ cZ cA q_M q_M_now q_M_most u_M_images u_M_kept u_M_text u_M_size u_M_sign u_M_manyAbove u_M_manyBelow u_M_above u_M_below u_M_refused u_M_at u_M_begin u_M_kind u_M_value u_M_read u_M_acts u_M_act u_M_waits u_M_wait u_M_held u_M_place u_M_heap u_M_clocks u_M_counts u_M_talking u_M_hasA u_M_hasB u_M_talks u_M_big a_M_now a_M_most) H) (hD : va_D A (ws_X11_plans cI cJ cZ cA q_M q_M_now q_M_most u_M_images u_M_kept u_M_text u_M_size u_M_sign u_M_manyAbove u_M_manyBelow u_M_above u_M_below u_M_refused u_M_at u_M_begin u_M_kind u_M_value u_M_read u_M_acts u_M_act u_M_waits u_M_wait u_M_held u_M_place u_M_heap u_M_clocks u_M_counts u_M_talking u_M_hasA u_M_hasB u_M_talks u_M_big a_M_now a_M_most)) (hS : va_S A s.heap H locs), k3 x2 a_M_most = some o → W p l e rm_X11_plans s m args below meth c H locs 0 0 Q (F0 m 3 ls [])) (k9 : Int32 → Int32 → (Nat → Int32) → Option ((Nat → Int32))) (hk9 : ∀ (x2 : Int32) (x3 : Int32) (a_M_most : Nat → Int32) (H : Heap) (locs : List Loc) (ls : Array Slot) (hl : lv_has ls 7 [(0, .ref q_M), (1, .int x1), (2, .int x2), (3, .int x3)]) (hP : va_P D vwCl (ws_X11_plans cI cJ cZ cA q_M q_M_now q_M_most u_M_images u_M_kept u_M_text u_M_size u_M_sign u_M_manyAbove u_M_manyBelow u_M_above u_M_below u_M_refused u_M_at u_M_begin u_M_kind u_M_value u_M_read u_M_acts u_M_act u_M_waits u_M_wait u_M_held u_M_place u_M_heap u_M_clocks u_M_counts u_M_talking u_M_hasA u_M_hasB u_M_talks u_M_big a_M_now a_M_most) H) (hD : va_D A (ws_X11_plans cI cJ cZ cA q_M q_M_now q_M_most u_M_images u_M_kept u_M_text u_M_size u_M_sign u_M_manyAbove u_M_manyBelow u_M_above u_M_below u_M_refused u_M_at u_M_begin u_M_kind u_M_value u_M_read u_M_acts u_M_act u_M_waits u_M_wait u_M_held u_M_place u_M_heap u_M_clocks u_M_counts u_M_talking u_M_hasA u_M_hasB u_M_talks u_M_big a_M_now a_M_most)) (hS : va_S A s.heap H locs), k9 x2 x3 a_M_most = some o → W p l e rm_X11_plans s m args below meth c H locs 0 0 Q (F0 m 9 ls []))  (n : Nat) (x2 : Int32) (x3 : Int32) (x4 : Int32) (x5 : Int32) (a_M_most : Nat → Int32) (H : Heap) (locs : List Loc) (ls : Array Slot) (hl : lv_has ls 7 [(0, .ref q_M), (1, .int x1), (2, .int x2), (3, .int x3), (4, .int x4), (5, .int x5)]) (hP : va_P D vwCl (ws_X11_plans cI cJ cZ cA q_M q_M_now q_M_most u_M_images u_M_kept u_M_text u_M_size u_M_sign u_M_manyAbove u_M_manyBelow u_M_above u_M_below u_M_refused u_M_at u_M_begin u_M_kind u_M_value u_M_read u_M_acts u_M_act u_M_waits u_M_wait u_M_held u_M_place u_M_heap u_M_clocks u_M_counts u_M_talking u_M_hasA u_M_hasB u_M_talks u_M_big a_M_now a_M_most) H) (hD : va_D A (ws_X11_plans cI cJ cZ cA q_M q_M_now q_M_most u_M_images u_M_kept u_M_text u_M_size u_M_sign u_M_manyAbove u_M_manyBelow u_M_above u_M_below u_M_refused u_M_at u_M_begin u_M_kind u_M_value u_M_read u_M_acts u_M_act u_M_waits u_M_wait u_M_held u_M_place u_M_heap u_M_clocks u_M_counts u_M_talking u_M_hasA u_M_hasB u_M_talks u_M_big a_M_now a_M_most)) (hS : va_S A s.heap H locs), g_X11_plans_105 a_M_now x1 k3 k9 n x2 x3 x4 x5 a_M_most = some o → W p l e rm_X11_plans s m args below meth c H locs 0 0 Q (F0 m 105 ls []) := by
    intro k3 hk3 k9 hk9 n
    induction n with
    | zero => intro x2 x3 x4 x5 a_M_most H locs ls hl hP hD hS hg; exact nomatch (show (none : Option ((Nat → Int32))) = some o from hg)
    | succ n ih =>
      intro x2 x3 x4 x5 a_M_most H locs ls hl hP hD hS hg
      have hg : g_X11_plans_105b a_M_now x1 k3 k9 (g_X11_plans_105 a_M_now x1 k3 k9 n) x2 x3 x4 x5 a_M_most = some o := hg
      refine lv_iload hx hb dX11_plans_105 (lv_at hl 5 rfl) ?_
      refine lv_aload_n hx hb dX11_plans_107 rfl (lv_at hl 0 rfl) ?_
      refine zget (C := RX11) (T := TX11) (N := 31) S hK hP 0 rfl rfl 0 (Nat.le_of_ble_eq_true rfl) zf_11 zw_149 rfl dX11_plans_108 ?_
      refine lv_iconst (v := 5) hx hb dX11_plans_111 (by decide) ?_
      refine ziald hx hb hK hP 1 0 rfl rfl (j := 5) (zin (by decide)) (by decide) dX11_plans_112 ?_
      refine lv_icmp_ge (tgt := 169) hx hb dX11_plans_113 (by decide) (fun h113 => ?_) (fun h113 => ?_)
      · have hg := zp hg h113
        refine lv_aload_n hx hb dX11_plans_169 rfl (lv_at hl 0 rfl) ?_
        refine zget (C := RX11) (T := TX11) (N := 31) S hK hP 0 rfl rfl 26 (Nat.le_of_ble_eq_true rfl) zf_11 zw_165 rfl dX11_plans_170 ?_
        refine lv_bipush (v := 100) hx hb dX11_plans_173 (by decide) ?_
        refine lv_iload_n hx hb dX11_plans_175 rfl (lv_at hl 2 rfl) ?_
        refine lv_imul hx hb dX11_plans_176 ?_
        refine lv_iload_n hx hb dX11_plans_177 rfl (lv_at hl 3 rfl) ?_
        refine lv_iadd hx hb dX11_plans_178 ?_
        refine lv_iload hx hb dX11_plans_179 (lv_at hl 4 rfl) ?_
        obtain ⟨h1, hg⟩ := zck hg
        refine ziast hx hb hK hP hD hS 2 0 rfl rfl (j := (((100 * x2) + x3).toNatClampNeg)) h1 rfl dX11_plans_181 (w2 := (ws_X11_plans cI cJ cZ cA q_M q_M_now q_M_most u_M_images u_M_kept u_M_text u_M_size u_M_sign u_M_manyAbove u_M_manyBelow u_M_above u_M_below u_M_refused u_M_at u_M_begin u_M_kind u_M_value u_M_read u_M_acts u_M_act u_M_waits u_M_wait u_M_held u_M_place u_M_heap u_M_clocks u_M_counts u_M_talking u_M_hasA u_M_hasB u_M_talks u_M_big a_M_now (upd a_M_most (((100 * x2) + x3).toNatClampNeg) x4))) rfl (fun H locs hP hD hS => ?_)
        refine lv_iinc (k := 3) (v := x3 + 1) (lv' := [(3, .int (x3 + 1)), (0, .ref q_M), (1, .int x1), (2, .int x2), (4, .int x4), (5, .int x5)]) hx hb dX11_plans_182 hl rfl (zinc (by decide)) (by decide) rfl (fun ls hl => ?_)
        refine lv_goto (tgt := 9) hx hb dX11_plans_185 (by decide) ?_
        exact hk9 x2 (x3 + 1) (upd a_M_most (((100 * x2) + x3).toNatClampNeg) x4) _ _ _ (lv_sub hl [1, 2, 3, 0] rfl) hP hD hS hg
      · have hg := zn hg h113
        refine lv_iload hx hb dX11_plans_116 (lv_at hl 4 rfl) ?_
        refine lv_aload_n hx hb dX11_plans_118 rfl (lv_at hl 0 rfl) ?_
        refine zget (C := RX11) (T := TX11) (N := 31) S hK hP 0 rfl rfl 0 (Nat.le_of_ble_eq_true rfl) zf_11 zw_149 rfl dX11_plans_119 ?_
        refine lv_bipush (v := 79) hx hb dX11_plans_122 (by decide) ?_
        refine lv_iload hx hb dX11_plans_124 (lv_at hl 5 rfl) ?_
        refine lv_iadd hx hb dX11_plans_126 ?_
        obtain ⟨h2, hg⟩ := zck hg
        refine ziald hx hb hK hP 1 0 rfl rfl (j := ((79 + x5).toNatClampNeg)) h2 rfl dX11_plans_127 ?_
        refine lv_iload_n hx hb dX11_plans_128 rfl (lv_at hl 2 rfl) ?_
        refine lv_icmp_ne (tgt := 159) hx hb dX11_plans_129 (by decide) (fun h129 => ?_) (fun h129 => ?_)
        · have hg := zn hg h129
          exact B159 k3 hk3 k9 hk9 (g_X11_plans_105 a_M_now x1 k3 k9 n) ih x2 x3 x5 x4 a_M_most _ _ _ (lv_sub hl [0, 1, 2, 3, 5] rfl) hP hD hS hg
        · have hg := zp hg h129
          refine lv_iload_n hx hb dX11_plans_132 rfl (lv_at hl 3 rfl) ?_
          refine lv_aload_n hx hb dX11_plans_133 rfl (lv_at hl 0 rfl) ?_
          refine zget (C := RX11) (T := TX11) (N := 31) S hK hP 0 rfl rfl 0 (Nat.le_of_ble_eq_true rfl) zf_11 zw_149 rfl dX11_plans_134 ?_
          refine lv_bipush (v := 71) hx hb dX11_plans_137 (by decide) ?_
          refine lv_iload hx hb dX11_plans_139 (lv_at hl 5 rfl) ?_
          refine lv_iadd hx hb dX11_plans_141 ?_
          obtain ⟨h3, hg⟩ := zck hg
          refine ziald hx hb hK hP 1 0 rfl rfl (j := ((71 + x5).toNatClampNeg)) h3 rfl dX11_plans_142 ?_
          refine lv_icmp_lt (tgt := 159) hx hb dX11_plans_143 (by decide) (fun h143 => ?_) (fun h143 => ?_)
          · have hg := zp hg h143
            exact B159 k3 hk3 k9 hk9 (g_X11_plans_105 a_M_now x1 k3 k9 n) ih x2 x3 x5 x4 a_M_most _ _ _ (lv_sub hl [0, 1, 2, 3, 5] rfl) hP hD hS hg
          · have hg := zn hg h143
            refine lv_aload_n hx hb dX11_plans_146 rfl (lv_at hl 0 rfl) ?_
            refine zget (C := RX11) (T := TX11) (N := 31) S hK hP 0 rfl rfl 0 (Nat.le_of_ble_eq_true rfl) zf_11 zw_149 rfl dX11_plans_147 ?_
            refine lv_bipush (v := 87) hx hb dX11_plans_150 (by decide) ?_
            refine lv_iload hx hb dX11_plans_152 (lv_at hl 5 rfl) ?_
            refine lv_iadd hx hb dX11_plans_154 ?_
            obtain ⟨h4, hg⟩ := zck hg
            refine ziald hx hb hK hP 1 0 rfl rfl (j := ((87 + x5).toNatClampNeg)) h4 rfl dX11_plans_155 ?_
            refine lv_goto (tgt := 160) hx hb dX11_plans_156 (by decide) ?_
            exact B160 k3 hk3 k9 hk9 (g_X11_plans_105 a_M_now x1 k3 k9 n) ih x2 x3 x5 x4 (a_M_now ((87 + x5).toNatClampNeg)) a_M_most _ _ _ (lv_sub hl [0, 1, 2, 3, 5] rfl) hP hD hS hg
  have B102 : ∀ (k3 : Int32 → (Nat → Int32) → Option ((Nat → Int32))) (hk3 : ∀ (x2 : Int32) (a_M_most : Nat → Int32) (H : Heap) (locs : List Loc) (ls : Array Slot) (hl : lv_has ls 7 [(0, .ref q_M), (1, .int x1), (2, .int x2)]) (hP : va_P D vwCl (ws_X11_plans cI cJ cZ cA q_M q_M_now q_M_most u_M_images u_M_kept u_M_text u_M_size u_M_sign u_M_manyAbove u_M_manyBelow u_M_above u_M_below u_M_refused u_M_at u_M_begin u_M_kind u_M_value u_M_read u_M_acts u_M_act u_M_waits u_M_wait u_M_held u_M_place u_M_heap u_M_clocks u_M_counts u_M_talking u_M_hasA u_M_hasB u_M_talks u_M_big a_M_now a_M_most) H) (hD : va_D A (ws_X11_plans cI cJ cZ cA q_M q_M_now q_M_most u_M_images u_M_kept u_M_text u_M_size u_M_sign u_M_manyAbove u_M_manyBelow u_M_above u_M_below u_M_refused u_M_at u_M_begin u_M_kind u_M_value u_M_read u_M_acts u_M_act u_M_waits u_M_wait u_M_held u_M_place u_M_heap u_M_clocks u_M_counts u_M_talking u_M_hasA u_M_hasB u_M_talks u_M_big a_M_now a_M_most)) (hS : va_S A s.heap H locs), k3 x2 a_M_most = some o → W p l e rm_X11_plans s m args below meth c H locs 0 0 Q (F0 m 3 ls [])) (k9 : Int32 → Int32 → (Nat → Int32) → Option ((Nat → Int32))) (hk9 : ∀ (x2 : Int32) (x3 : Int32) (a_M_most : Nat → Int32) (H : Heap) (locs : List Loc) (ls : Array Slot) (hl : lv_has ls 7 [(0, .ref q_M), (1, .int x1), (2, .int x2), (3, .int x3)]) (hP : va_P D vwCl (ws_X11_plans cI cJ cZ cA q_M q_M_now q_M_most u_M_images u_M_kept u_M_text u_M_size u_M_sign u_M_manyAbove u_M_manyBelow u_M_above u_M_below u_M_refused u_M_at u_M_begin u_M_kind u_M_value u_M_read u_M_acts u_M_act u_M_waits u_M_wait u_M_held u_M_place u_M_heap u_M_clocks u_M_counts u_M_talking u_M_hasA u_M_hasB u_M_talks u_M_big a_M_now a_M_most) H) (hD : va_D A (ws_X11_plans cI cJ cZ cA q_M q_M_now q_M_most u_M_images u_M_kept u_M_text u_M_size u_M_sign u_M_manyAbove u_M_manyBelow u_M_above u_M_below u_M_refused u_M_at u_M_begin u_M_kind u_M_value u_M_read u_M_acts u_M_act u_M_waits u_M_wait u_M_held u_M_place u_M_heap u_M_clocks u_M_counts u_M_talking u_M_hasA u_M_hasB u_M_talks u_M_big a_M_now a_M_most)) (hS : va_S A s.heap H locs), k9 x2 x3 a_M_most = some o → W p l e rm_X11_plans s m args below meth c H locs 0 0 Q (F0 m 9 ls [])) (x2 : Int32) (x3 : Int32) (x4 : Int32) (a_M_most : Nat → Int32) (H : Heap) (locs : List Loc) (ls : Array Slot) (hl : lv_has ls 7 [(0, .ref q_M), (1, .int x1), (2, .int x2), (3, .int x3), (4, .int x4)]) (hP : va_P D vwCl (ws_X11_plans cI cJ cZ cA q_M q_M_now q_M_most u_M_images u_M_kept u_M_text u_M_size u_M_sign u_M_manyAbove u_M_manyBelow u_M_above u_M_below u_M_refused u_M_at u_M_begin u_M_kind u_M_value u_M_read u_M_acts u_M_act u_M_waits u_M_wait u_M_held u_M_place u_M_heap u_M_clocks u_M_counts u_M_talking u_M_hasA u_M_hasB u_M_talks u_M_big a_M_now a_M_most) H) (hD : va_D A (ws_X11_plans cI cJ cZ cA q_M q_M_now q_M_most u_M_images u_M_kept u_M_text u_M_size u_M_sign u_M_manyAbove u_M_manyBelow u_M_above u_M_below u_M_refused u_M_at u_M_begin u_M_kind u_M_value u_M_read u_M_acts u_M_act u_M_waits u_M_wait u_M_held u_M_place u_M_heap u_M_clocks u_M_counts u_M_talking u_M_hasA u_M_hasB u_M_talks u_M_big a_M_now a_M_most)) (hS : va_S A s.heap H locs), g_X11_plans_102 a_M_now x1 k3 k9 x2 x3 x4 a_M_most = some o → W p l e rm_X11_plans s m args below meth c H locs 0 0 Q (F0 m 102 ls []) := by
    intro k3 hk3 k9 hk9 x2 x3 x4 a_M_most H locs ls hl hP hD hS hg
    refine lv_iconst (v := 0) hx hb dX11_plans_102 (by decide) ?_
    refine lv_istore (lv' := [(5, .int 0), (0, .ref q_M), (1, .int x1), (2, .int x2), (3, .int x3), (4, .int x4)]) hx hb dX11_plans_103 hl (by decide) rfl (fun ls hl => ?_)
    exact B105 k3 hk3 k9 hk9 zF x2 x3 x4 0 a_M_most _ _ _ (lv_sub hl [1, 2, 3, 4, 5, 0] rfl) hP hD hS hg
  have B94 : ∀ (k3 : Int32 → (Nat → Int32) → Option ((Nat → Int32))) (hk3 : ∀ (x2 : Int32) (a_M_most : Nat → Int32) (H : Heap) (locs : List Loc) (ls : Array Slot) (hl : lv_has ls 7 [(0, .ref q_M), (1, .int x1), (2, .int x2)]) (hP : va_P D vwCl (ws_X11_plans cI cJ cZ cA q_M q_M_now q_M_most u_M_images u_M_kept u_M_text u_M_size u_M_sign u_M_manyAbove u_M_manyBelow u_M_above u_M_below u_M_refused u_M_at u_M_begin u_M_kind u_M_value u_M_read u_M_acts u_M_act u_M_waits u_M_wait u_M_held u_M_place u_M_heap u_M_clocks u_M_counts u_M_talking u_M_hasA u_M_hasB u_M_talks u_M_big a_M_now a_M_most) H) (hD : va_D A (ws_X11_plans cI cJ cZ cA q_M q_M_now q_M_most u_M_images u_M_kept u_M_text u_M_size u_M_sign u_M_manyAbove u_M_manyBelow u_M_above u_M_below u_M_refused u_M_at u_M_begin u_M_kind u_M_value u_M_read u_M_acts u_M_act u_M_waits u_M_wait u_M_held u_M_place u_M_heap u_M_clocks u_M_counts u_M_talking u_M_hasA u_M_hasB u_M_talks u_M_big a_M_now a_M_most)) (hS : va_S A s.heap H locs), k3 x2 a_M_most = some o → W p l e rm_X11_plans s m args below meth c H locs 0 0 Q (F0 m 3 ls [])) (k9 : Int32 → Int32 → (Nat → Int32) → Option ((Nat → Int32))) (hk9 : ∀ (x2 : Int32) (x3 : Int32) (a_M_most : Nat → Int32) (H : Heap) (locs : List Loc) (ls : Array Slot) (hl : lv_has ls 7 [(0, .ref q_M), (1, .int x1), (2, .int x2), (3, .int x3)]) (hP : va_P D vwCl (ws_X11_plans cI cJ cZ cA q_M q_M_now q_M_most u_M_images u_M_kept u_M_text u_M_size u_M_sign u_M_manyAbove u_M_manyBelow u_M_above u_M_below u_M_refused u_M_at u_M_begin u_M_kind u_M_value u_M_read u_M_acts u_M_act u_M_waits u_M_wait u_M_held u_M_place u_M_heap u_M_clocks u_M_counts u_M_talking u_M_hasA u_M_hasB u_M_talks u_M_big a_M_now a_M_most) H) (hD : va_D A (ws_X11_plans cI cJ cZ cA q_M q_M_now q_M_most u_M_images u_M_kept u_M_text u_M_size u_M_sign u_M_manyAbove u_M_manyBelow u_M_above u_M_below u_M_refused u_M_at u_M_begin u_M_kind u_M_value u_M_read u_M_acts u_M_act u_M_waits u_M_wait u_M_held u_M_place u_M_heap u_M_clocks u_M_counts u_M_talking u_M_hasA u_M_hasB u_M_talks u_M_big a_M_now a_M_most)) (hS : va_S A s.heap H locs), k9 x2 x3 a_M_most = some o → W p l e rm_X11_plans s m args below meth c H locs 0 0 Q (F0 m 9 ls [])) (k21 : Int32 → Int32 → Int32 → Int32 → (Nat → Int32) → Option ((Nat → Int32))) (hk21 : ∀ (x2 : Int32) (x3 : Int32) (x4 : Int32) (x5 : Int32) (a_M_most : Nat → Int32) (H : Heap) (locs : List Loc) (ls : Array Slot) (hl : lv_has ls 7 [(0, .ref q_M), (1, .int x1), (2, .int x2), (3, .int x3), (4, .int x4), (5, .int x5)]) (hP : va_P D vwCl (ws_X11_plans cI cJ cZ cA q_M q_M_now q_M_most u_M_images u_M_kept u_M_text u_M_size u_M_sign u_M_manyAbove u_M_manyBelow u_M_above u_M_below u_M_refused u_M_at u_M_begin u_M_kind u_M_value u_M_read u_M_acts u_M_act u_M_waits u_M_wait u_M_held u_M_place u_M_heap u_M_clocks u_M_counts u_M_talking u_M_hasA u_M_hasB u_M_talks u_M_big a_M_now a_M_most) H) (hD : va_D A (ws_X11_plans cI cJ cZ cA q_M q_M_now q_M_most u_M_images u_M_kept u_M_text u_M_size u_M_sign u_M_manyAbove u_M_manyBelow u_M_above u_M_below u_M_refused u_M_at u_M_begin u_M_kind u_M_value u_M_read u_M_acts u_M_act u_M_waits u_M_wait u_M_held u_M_place u_M_heap u_M_clocks u_M_counts u_M_talking u_M_hasA u_M_hasB u_M_talks u_M_big a_M_now a_M_most)) (hS : va_S A s.heap H locs), k21 x2 x3 x4 x5 a_M_most = some o → W p l e rm_X11_plans s m args below meth c H locs 0 0 Q (F0 m 21 ls [])) (x2 : Int32) (x3 : Int32) (x5 : Int32) (t0 : Int32) (a_M_most : Nat → Int32) (H : Heap) (locs : List Loc) (ls : Array Slot) (hl : lv_has ls 7 [(0, .ref q_M), (1, .int x1), (2, .int x2), (3, .int x3), (5, .int x5)]) (hP : va_P D vwCl (ws_X11_plans cI cJ cZ cA q_M q_M_now q_M_most u_M_images u_M_kept u_M_text u_M_size u_M_sign u_M_manyAbove u_M_manyBelow u_M_above u_M_below u_M_refused u_M_at u_M_begin u_M_kind u_M_value u_M_read u_M_acts u_M_act u_M_waits u_M_wait u_M_held u_M_place u_M_heap u_M_clocks u_M_counts u_M_talking u_M_hasA u_M_hasB u_M_talks u_M_big a_M_now a_M_most) H) (hD : va_D A (ws_X11_plans cI cJ cZ cA q_M q_M_now q_M_most u_M_images u_M_kept u_M_text u_M_size u_M_sign u_M_manyAbove u_M_manyBelow u_M_above u_M_below u_M_refused u_M_at u_M_begin u_M_kind u_M_value u_M_read u_M_acts u_M_act u_M_waits u_M_wait u_M_held u_M_place u_M_heap u_M_clocks u_M_counts u_M_talking u_M_hasA u_M_hasB u_M_talks u_M_big a_M_now a_M_most)) (hS : va_S A s.heap H locs), g_X11_plans_94 a_M_now x1 k3 k9 k21 x2 x3 x5 t0 a_M_most = some o → W p l e rm_X11_plans s m args below meth c H locs 0 0 Q (F0 m 94 ls [.int t0]) := by
    intro k3 hk3 k9 hk9 k21 hk21 x2 x3 x5 t0 a_M_most H locs ls hl hP hD hS hg
    refine lv_istore (lv' := [(4, .int t0), (0, .ref q_M), (1, .int x1), (2, .int x2), (3, .int x3), (5, .int x5)]) hx hb dX11_plans_94 hl (by decide) rfl (fun ls hl => ?_)
    refine lv_iinc (k := 5) (v := x5 + 1) (lv' := [(5, .int (x5 + 1)), (4, .int t0), (0, .ref q_M), (1, .int x1), (2, .int x2), (3, .int x3)]) hx hb dX11_plans_96 hl rfl (zinc (by decide)) (by decide) rfl (fun ls hl => ?_)
    refine lv_goto (tgt := 21) hx hb dX11_plans_99 (by decide) ?_
    exact hk21 x2 x3 t0 (x5 + 1) a_M_most _ _ _ (lv_sub hl [2, 3, 4, 5, 1, 0] rfl) hP hD hS hg
  have B87 : ∀ (k3 : Int32 → (Nat → Int32) → Option ((Nat → Int32))) (hk3 : ∀ (x2 : Int32) (a_M_most : Nat → Int32) (H : Heap) (locs : List Loc) (ls : Array Slot) (hl : lv_has ls 7 [(0, .ref q_M), (1, .int x1), (2, .int x2)]) (hP : va_P D vwCl (ws_X11_plans cI cJ cZ cA q_M q_M_now q_M_most u_M_images u_M_kept u_M_text u_M_size u_M_sign u_M_manyAbove u_M_manyBelow u_M_above u_M_below u_M_refused u_M_at u_M_begin u_M_kind u_M_value u_M_read u_M_acts u_M_act u_M_waits u_M_wait u_M_held u_M_place u_M_heap u_M_clocks u_M_counts u_M_talking u_M_hasA u_M_hasB u_M_talks u_M_big a_M_now a_M_most) H) (hD : va_D A (ws_X11_plans cI cJ cZ cA q_M q_M_now q_M_most u_M_images u_M_kept u_M_text u_M_size u_M_sign u_M_manyAbove u_M_manyBelow u_M_above u_M_below u_M_refused u_M_at u_M_begin u_M_kind u_M_value u_M_read u_M_acts u_M_act u_M_waits u_M_wait u_M_held u_M_place u_M_heap u_M_clocks u_M_counts u_M_talking u_M_hasA u_M_hasB u_M_talks u_M_big a_M_now a_M_most)) (hS : va_S A s.heap H locs), k3 x2 a_M_most = some o → W p l e rm_X11_plans s m args below meth c H locs 0 0 Q (F0 m 3 ls [])) (k9 : Int32 → Int32 → (Nat → Int32) → Option ((Nat → Int32))) (hk9 : ∀ (x2 : Int32) (x3 : Int32) (a_M_most : Nat → Int32) (H : Heap) (locs : List Loc) (ls : Array Slot) (hl : lv_has ls 7 [(0, .ref q_M), (1, .int x1), (2, .int x2), (3, .int x3)]) (hP : va_P D vwCl (ws_X11_plans cI cJ cZ cA q_M q_M_now q_M_most u_M_images u_M_kept u_M_text u_M_size u_M_sign u_M_manyAbove u_M_manyBelow u_M_above u_M_below u_M_refused u_M_at u_M_begin u_M_kind u_M_value u_M_read u_M_acts u_M_act u_M_waits u_M_wait u_M_held u_M_place u_M_heap u_M_clocks u_M_counts u_M_talking u_M_hasA u_M_hasB u_M_talks u_M_big a_M_now a_M_most) H) (hD : va_D A (ws_X11_plans cI cJ cZ cA q_M q_M_now q_M_most u_M_images u_M_kept u_M_text u_M_size u_M_sign u_M_manyAbove u_M_manyBelow u_M_above u_M_below u_M_refused u_M_at u_M_begin u_M_kind u_M_value u_M_read u_M_acts u_M_act u_M_waits u_M_wait u_M_held u_M_place u_M_heap u_M_clocks u_M_counts u_M_talking u_M_hasA u_M_hasB u_M_talks u_M_big a_M_now a_M_most)) (hS : va_S A s.heap H locs), k9 x2 x3 a_M_most = some o → W p l e rm_X11_plans s m args below meth c H locs 0 0 Q (F0 m 9 ls [])) (k21 : Int32 → Int32 → Int32 → Int32 → (Nat → Int32) → Option ((Nat → Int32))) (hk21 : ∀ (x2 : Int32) (x3 : Int32) (x4 : Int32) (x5 : Int32) (a_M_most : Nat → Int32) (H : Heap) (locs : List Loc) (ls : Array Slot) (hl : lv_has ls 7 [(0, .ref q_M), (1, .int x1), (2, .int x2), (3, .int x3), (4, .int x4), (5, .int x5)]) (hP : va_P D vwCl (ws_X11_plans cI cJ cZ cA q_M q_M_now q_M_most u_M_images u_M_kept u_M_text u_M_size u_M_sign u_M_manyAbove u_M_manyBelow u_M_above u_M_below u_M_refused u_M_at u_M_begin u_M_kind u_M_value u_M_read u_M_acts u_M_act u_M_waits u_M_wait u_M_held u_M_place u_M_heap u_M_clocks u_M_counts u_M_talking u_M_hasA u_M_hasB u_M_talks u_M_big a_M_now a_M_most) H) (hD : va_D A (ws_X11_plans cI cJ cZ cA q_M q_M_now q_M_most u_M_images u_M_kept u_M_text u_M_size u_M_sign u_M_manyAbove u_M_manyBelow u_M_above u_M_below u_M_refused u_M_at u_M_begin u_M_kind u_M_value u_M_read u_M_acts u_M_act u_M_waits u_M_wait u_M_held u_M_place u_M_heap u_M_clocks u_M_counts u_M_talking u_M_hasA u_M_hasB u_M_talks u_M_big a_M_now a_M_most)) (hS : va_S A s.heap H locs), k21 x2 x3 x4 x5 a_M_most = some o → W p l e rm_X11_plans s m args below meth c H locs 0 0 Q (F0 m 21 ls [])) (x2 : Int32) (x3 : Int32) (x5 : Int32) (x6 : Int32) (a_M_most : Nat → Int32) (H : Heap) (locs : List Loc) (ls : Array Slot) (hl : lv_has ls 7 [(0, .ref q_M), (1, .int x1), (2, .int x2), (3, .int x3), (5, .int x5), (6, .int x6)]) (hP : va_P D vwCl (ws_X11_plans cI cJ cZ cA q_M q_M_now q_M_most u_M_images u_M_kept u_M_text u_M_size u_M_sign u_M_manyAbove u_M_manyBelow u_M_above u_M_below u_M_refused u_M_at u_M_begin u_M_kind u_M_value u_M_read u_M_acts u_M_act u_M_waits u_M_wait u_M_held u_M_place u_M_heap u_M_clocks u_M_counts u_M_talking u_M_hasA u_M_hasB u_M_talks u_M_big a_M_now a_M_most) H) (hD : va_D A (ws_X11_plans cI cJ cZ cA q_M q_M_now q_M_most u_M_images u_M_kept u_M_text u_M_size u_M_sign u_M_manyAbove u_M_manyBelow u_M_above u_M_below u_M_refused u_M_at u_M_begin u_M_kind u_M_value u_M_read u_M_acts u_M_act u_M_waits u_M_wait u_M_held u_M_place u_M_heap u_M_clocks u_M_counts u_M_talking u_M_hasA u_M_hasB u_M_talks u_M_big a_M_now a_M_most)) (hS : va_S A s.heap H locs), g_X11_plans_87 a_M_now x1 k3 k9 k21 x2 x3 x5 x6 a_M_most = some o → W p l e rm_X11_plans s m args below meth c H locs 0 0 Q (F0 m 87 ls []) := by
    intro k3 hk3 k9 hk9 k21 hk21 x2 x3 x5 x6 a_M_most H locs ls hl hP hD hS hg
    refine lv_iload hx hb dX11_plans_87 (lv_at hl 5 rfl) ?_
    refine lv_goto (tgt := 94) hx hb dX11_plans_89 (by decide) ?_
    exact B94 k3 hk3 k9 hk9 k21 hk21 x2 x3 x5 x6 a_M_most _ _ _ (lv_sub hl [0, 1, 2, 3, 4] rfl) hP hD hS hg
  have B66 : ∀ (k3 : Int32 → (Nat → Int32) → Option ((Nat → Int32))) (hk3 : ∀ (x2 : Int32) (a_M_most : Nat → Int32) (H : Heap) (locs : List Loc) (ls : Array Slot) (hl : lv_has ls 7 [(0, .ref q_M), (1, .int x1), (2, .int x2)]) (hP : va_P D vwCl (ws_X11_plans cI cJ cZ cA q_M q_M_now q_M_most u_M_images u_M_kept u_M_text u_M_size u_M_sign u_M_manyAbove u_M_manyBelow u_M_above u_M_below u_M_refused u_M_at u_M_begin u_M_kind u_M_value u_M_read u_M_acts u_M_act u_M_waits u_M_wait u_M_held u_M_place u_M_heap u_M_clocks u_M_counts u_M_talking u_M_hasA u_M_hasB u_M_talks u_M_big a_M_now a_M_most) H) (hD : va_D A (ws_X11_plans cI cJ cZ cA q_M q_M_now q_M_most u_M_images u_M_kept u_M_text u_M_size u_M_sign u_M_manyAbove u_M_manyBelow u_M_above u_M_below u_M_refused u_M_at u_M_begin u_M_kind u_M_value u_M_read u_M_acts u_M_act u_M_waits u_M_wait u_M_held u_M_place u_M_heap u_M_clocks u_M_counts u_M_talking u_M_hasA u_M_hasB u_M_talks u_M_big a_M_now a_M_most)) (hS : va_S A s.heap H locs), k3 x2 a_M_most = some o → W p l e rm_X11_plans s m args below meth c H locs 0 0 Q (F0 m 3 ls [])) (k9 : Int32 → Int32 → (Nat → Int32) → Option ((Nat → Int32))) (hk9 : ∀ (x2 : Int32) (x3 : Int32) (a_M_most : Nat → Int32) (H : Heap) (locs : List Loc) (ls : Array Slot) (hl : lv_has ls 7 [(0, .ref q_M), (1, .int x1), (2, .int x2), (3, .int x3)]) (hP : va_P D vwCl (ws_X11_plans cI cJ cZ cA q_M q_M_now q_M_most u_M_images u_M_kept u_M_text u_M_size u_M_sign u_M_manyAbove u_M_manyBelow u_M_above u_M_below u_M_refused u_M_at u_M_begin u_M_kind u_M_value u_M_read u_M_acts u_M_act u_M_waits u_M_wait u_M_held u_M_place u_M_heap u_M_clocks u_M_counts u_M_talking u_M_hasA u_M_hasB u_M_talks u_M_big a_M_now a_M_most) H) (hD : va_D A (ws_X11_plans cI cJ cZ cA q_M q_M_now q_M_most u_M_images u_M_kept u_M_text u_M_size u_M_sign u_M_manyAbove u_M_manyBelow u_M_above u_M_below u_M_refused u_M_at u_M_begin u_M_kind u_M_value u_M_read u_M_acts u_M_act u_M_waits u_M_wait u_M_held u_M_place u_M_heap u_M_clocks u_M_counts u_M_talking u_M_hasA u_M_hasB u_M_talks u_M_big a_M_now a_M_most)) (hS : va_S A s.heap H locs), k9 x2 x3 a_M_most = some o → W p l e rm_X11_plans s m args below meth c H locs 0 0 Q (F0 m 9 ls [])) (k21 : Int32 → Int32 → Int32 → Int32 → (Nat → Int32) → Option ((Nat → Int32))) (hk21 : ∀ (x2 : Int32) (x3 : Int32) (x4 : Int32) (x5 : Int32) (a_M_most : Nat → Int32) (H : Heap) (locs : List Loc) (ls : Array Slot) (hl : lv_has ls 7 [(0, .ref q_M), (1, .int x1), (2, .int x2), (3, .int x3), (4, .int x4), (5, .int x5)]) (hP : va_P D vwCl (ws_X11_plans cI cJ cZ cA q_M q_M_now q_M_most u_M_images u_M_kept u_M_text u_M_size u_M_sign u_M_manyAbove u_M_manyBelow u_M_above u_M_below u_M_refused u_M_at u_M_begin u_M_kind u_M_value u_M_read u_M_acts u_M_act u_M_waits u_M_wait u_M_held u_M_place u_M_heap u_M_clocks u_M_counts u_M_talking u_M_hasA u_M_hasB u_M_talks u_M_big a_M_now a_M_most) H) (hD : va_D A (ws_X11_plans cI cJ cZ cA q_M q_M_now q_M_most u_M_images u_M_kept u_M_text u_M_size u_M_sign u_M_manyAbove u_M_manyBelow u_M_above u_M_below u_M_refused u_M_at u_M_begin u_M_kind u_M_value u_M_read u_M_acts u_M_act u_M_waits u_M_wait u_M_held u_M_place u_M_heap u_M_clocks u_M_counts u_M_talking u_M_hasA u_M_hasB u_M_talks u_M_big a_M_now a_M_most)) (hS : va_S A s.heap H locs), k21 x2 x3 x4 x5 a_M_most = some o → W p l e rm_X11_plans s m args below meth c H locs 0 0 Q (F0 m 21 ls [])) (x2 : Int32) (x3 : Int32) (x4 : Int32) (x5 : Int32) (t1 : Int32) (t2 : Int32) (a_M_most : Nat → Int32) (H : Heap) (locs : List Loc) (ls : Array Slot) (hl : lv_has ls 7 [(0, .ref q_M), (1, .int x1), (2, .int x2), (3, .int x3), (4, .int x4), (5, .int x5)]) (hP : va_P D vwCl (ws_X11_plans cI cJ cZ cA q_M q_M_now q_M_most u_M_images u_M_kept u_M_text u_M_size u_M_sign u_M_manyAbove u_M_manyBelow u_M_above u_M_below u_M_refused u_M_at u_M_begin u_M_kind u_M_value u_M_read u_M_acts u_M_act u_M_waits u_M_wait u_M_held u_M_place u_M_heap u_M_clocks u_M_counts u_M_talking u_M_hasA u_M_hasB u_M_talks u_M_big a_M_now a_M_most) H) (hD : va_D A (ws_X11_plans cI cJ cZ cA q_M q_M_now q_M_most u_M_images u_M_kept u_M_text u_M_size u_M_sign u_M_manyAbove u_M_manyBelow u_M_above u_M_below u_M_refused u_M_at u_M_begin u_M_kind u_M_value u_M_read u_M_acts u_M_act u_M_waits u_M_wait u_M_held u_M_place u_M_heap u_M_clocks u_M_counts u_M_talking u_M_hasA u_M_hasB u_M_talks u_M_big a_M_now a_M_most)) (hS : va_S A s.heap H locs), g_X11_plans_66 a_M_now x1 k3 k9 k21 x2 x3 x4 x5 t1 t2 a_M_most = some o → W p l e rm_X11_plans s m args below meth c H locs 0 0 Q (F0 m 66 ls [.int t2, .int t1, .ref q_M_most]) := by
    intro k3 hk3 k9 hk9 k21 hk21 x2 x3 x4 x5 t1 t2 a_M_most H locs ls hl hP hD hS hg
    refine lv_iadd hx hb dX11_plans_66 ?_
    obtain ⟨h5, hg⟩ := zck hg
    refine ziald hx hb hK hP 2 0 rfl rfl (j := ((t1 + t2).toNatClampNeg)) h5 rfl dX11_plans_67 ?_
    refine lv_iload_n hx hb dX11_plans_68 rfl (lv_at hl 1 rfl) ?_
    refine lv_iload hx hb dX11_plans_69 (lv_at hl 5 rfl) ?_
    refine lv_imul hx hb dX11_plans_71 ?_
    refine lv_isub hx hb dX11_plans_72 ?_
    refine lv_istore (lv' := [(6, .int ((a_M_most ((t1 + t2).toNatClampNeg)) - (x1 * x5))), (0, .ref q_M), (1, .int x1), (2, .int x2), (3, .int x3), (4, .int x4), (5, .int x5)]) hx hb dX11_plans_73 hl (by decide) rfl (fun ls hl => ?_)
    refine lv_iload hx hb dX11_plans_75 (lv_at hl 6 rfl) ?_
    refine lv_if_eq (tgt := 87) hx hb dX11_plans_77 (by decide) (fun h77 => ?_) (fun h77 => ?_)
    · have hg := zp hg h77
      exact B87 k3 hk3 k9 hk9 k21 hk21 x2 x3 x5 ((a_M_most ((t1 + t2).toNatClampNeg)) - (x1 * x5)) a_M_most _ _ _ (lv_sub hl [1, 2, 3, 4, 6, 0] rfl) hP hD hS hg
    · have hg := zn hg h77
      refine lv_iload hx hb dX11_plans_80 (lv_at hl 0 rfl) ?_
      refine lv_iload hx hb dX11_plans_82 (lv_at hl 5 rfl) ?_
      refine lv_icmp_le (tgt := 92) hx hb dX11_plans_84 (by decide) (fun h84 => ?_) (fun h84 => ?_)
      · have hg := zp hg h84
        refine lv_iload hx hb dX11_plans_92 (lv_at hl 5 rfl) ?_
        exact B94 k3 hk3 k9 hk9 k21 hk21 x2 x3 x5 x4 a_M_most _ _ _ (lv_sub hl [1, 2, 3, 4, 6] rfl) hP hD hS hg
      · have hg := zn hg h84
        exact B87 k3 hk3 k9 hk9 k21 hk21 x2 x3 x5 ((a_M_most ((t1 + t2).toNatClampNeg)) - (x1 * x5)) a_M_most _ _ _ (lv_sub hl [1, 2, 3, 4, 6, 0] rfl) hP hD hS hg
  have B21 : ∀ (k3 : Int32 → (Nat → Int32) → Option ((Nat → Int32))) (hk3 : ∀ (x2 : Int32) (a_M_most : Nat → Int32) (H : Heap) (locs : List Loc) (ls : Array Slot) (hl : lv_has ls 7 [(0, .ref q_M), (1, .int x1), (2, .int x2)]) (hP : va_P D vwCl (ws_X11_plans cI cJ cZ cA q_M q_M_now q_M_most u_M_images u_M_kept u_M_text u_M_size u_M_sign u_M_manyAbove u_M_manyBelow u_M_above u_M_below u_M_refused u_M_at u_M_begin u_M_kind u_M_value u_M_read u_M_acts u_M_act u_M_waits u_M_wait u_M_held u_M_place u_M_heap u_M_clocks u_M_counts u_M_talking u_M_hasA u_M_hasB u_M_talks u_M_big a_M_now a_M_most) H) (hD : va_D A (ws_X11_plans cI cJ cZ cA q_M q_M_now q_M_most u_M_images u_M_kept u_M_text u_M_size u_M_sign u_M_manyAbove u_M_manyBelow u_M_above u_M_below u_M_refused u_M_at u_M_begin u_M_kind u_M_value u_M_read u_M_acts u_M_act u_M_waits u_M_wait u_M_held u_M_place u_M_heap u_M_clocks u_M_counts u_M_talking u_M_hasA u_M_hasB u_M_talks u_M_big a_M_now a_M_most)) (hS : va_S A s.heap H locs), k3 x2 a_M_most = some o → W p l e rm_X11_plans s m args below meth c H locs 0 0 Q (F0 m 3 ls [])) (k9 : Int32 → Int32 → (Nat → Int32) → Option ((Nat → Int32))) (hk9 : ∀ (x2 : Int32) (x3 : Int32) (a_M_most : Nat → Int32) (H : Heap) (locs : List Loc) (ls : Array Slot) (hl : lv_has ls 7 [(0, .ref q_M), (1, .int x1), (2, .int x2), (3, .int x3)]) (hP : va_P D vwCl (ws_X11_plans cI cJ cZ cA q_M q_M_now q_M_most u_M_images u_M_kept u_M_text u_M_size u_M_sign u_M_manyAbove u_M_manyBelow u_M_above u_M_below u_M_refused u_M_at u_M_begin u_M_kind u_M_value u_M_read u_M_acts u_M_act u_M_waits u_M_wait u_M_held u_M_place u_M_heap u_M_clocks u_M_counts u_M_talking u_M_hasA u_M_hasB u_M_talks u_M_big a_M_now a_M_most) H) (hD : va_D A (ws_X11_plans cI cJ cZ cA q_M q_M_now q_M_most u_M_images u_M_kept u_M_text u_M_size u_M_sign u_M_manyAbove u_M_manyBelow u_M_above u_M_below u_M_refused u_M_at u_M_begin u_M_kind u_M_value u_M_read u_M_acts u_M_act u_M_waits u_M_wait u_M_held u_M_place u_M_heap u_M_clocks u_M_counts u_M_talking u_M_hasA u_M_hasB u_M_talks u_M_big a_M_now a_M_most)) (hS : va_S A s.heap H locs), k9 x2 x3 a_M_most = some o → W p l e rm_X11_plans s m args below meth c H locs 0 0 Q (F0 m 9 ls []))  (n : Nat) (x2 : Int32) (x3 : Int32) (x4 : Int32) (x5 : Int32) (a_M_most : Nat → Int32) (H : Heap) (locs : List Loc) (ls : Array Slot) (hl : lv_has ls 7 [(0, .ref q_M), (1, .int x1), (2, .int x2), (3, .int x3), (4, .int x4), (5, .int x5)]) (hP : va_P D vwCl (ws_X11_plans cI cJ cZ cA q_M q_M_now q_M_most u_M_images u_M_kept u_M_text u_M_size u_M_sign u_M_manyAbove u_M_manyBelow u_M_above u_M_below u_M_refused u_M_at u_M_begin u_M_kind u_M_value u_M_read u_M_acts u_M_act u_M_waits u_M_wait u_M_held u_M_place u_M_heap u_M_clocks u_M_counts u_M_talking u_M_hasA u_M_hasB u_M_talks u_M_big a_M_now a_M_most) H) (hD : va_D A (ws_X11_plans cI cJ cZ cA q_M q_M_now q_M_most u_M_images u_M_kept u_M_text u_M_size u_M_sign u_M_manyAbove u_M_manyBelow u_M_above u_M_below u_M_refused u_M_at u_M_begin u_M_kind u_M_value u_M_read u_M_acts u_M_act u_M_waits u_M_wait u_M_held u_M_place u_M_heap u_M_clocks u_M_counts u_M_talking u_M_hasA u_M_hasB u_M_talks u_M_big a_M_now a_M_most)) (hS : va_S A s.heap H locs), g_X11_plans_21 a_M_now x1 k3 k9 n x2 x3 x4 x5 a_M_most = some o → W p l e rm_X11_plans s m args below meth c H locs 0 0 Q (F0 m 21 ls []) := by
    intro k3 hk3 k9 hk9 n
    induction n with
    | zero => intro x2 x3 x4 x5 a_M_most H locs ls hl hP hD hS hg; exact nomatch (show (none : Option ((Nat → Int32))) = some o from hg)
    | succ n ih =>
      intro x2 x3 x4 x5 a_M_most H locs ls hl hP hD hS hg
      have hg : g_X11_plans_21b a_M_now x1 k3 k9 (g_X11_plans_21 a_M_now x1 k3 k9 n) x2 x3 x4 x5 a_M_most = some o := hg
      refine lv_iload hx hb dX11_plans_21 (lv_at hl 5 rfl) ?_
      refine lv_aload_n hx hb dX11_plans_23 rfl (lv_at hl 0 rfl) ?_
      refine zget (C := RX11) (T := TX11) (N := 31) S hK hP 0 rfl rfl 0 (Nat.le_of_ble_eq_true rfl) zf_11 zw_149 rfl dX11_plans_24 ?_
      refine lv_iconst (v := 0) hx hb dX11_plans_27 (by decide) ?_
      refine ziald hx hb hK hP 1 0 rfl rfl (j := 0) (zin (by decide)) (by decide) dX11_plans_28 ?_
      refine lv_icmp_gt (tgt := 102) hx hb dX11_plans_29 (by decide) (fun h29 => ?_) (fun h29 => ?_)
      · have hg := zp hg h29
        exact B102 k3 hk3 k9 hk9 x2 x3 x4 a_M_most _ _ _ (lv_sub hl [0, 1, 2, 3, 4] rfl) hP hD hS hg
      · have hg := zn hg h29
        refine lv_iload_n hx hb dX11_plans_32 rfl (lv_at hl 2 rfl) ?_
        refine lv_bipush (v := 99) hx hb dX11_plans_33 (by decide) ?_
        refine lv_icmp_ge (tgt := 102) hx hb dX11_plans_35 (by decide) (fun h35 => ?_) (fun h35 => ?_)
        · have hg := zp hg h35
          exact B102 k3 hk3 k9 hk9 x2 x3 x4 a_M_most _ _ _ (lv_sub hl [0, 1, 2, 3, 4] rfl) hP hD hS hg
        · have hg := zn hg h35
          refine lv_aload_n hx hb dX11_plans_38 rfl (lv_at hl 0 rfl) ?_
          refine zget (C := RX11) (T := TX11) (N := 31) S hK hP 0 rfl rfl 26 (Nat.le_of_ble_eq_true rfl) zf_11 zw_165 rfl dX11_plans_39 ?_
          refine lv_bipush (v := 100) hx hb dX11_plans_42 (by decide) ?_
          refine lv_iload_n hx hb dX11_plans_44 rfl (lv_at hl 2 rfl) ?_
          refine lv_iconst (v := 1) hx hb dX11_plans_45 (by decide) ?_
          refine lv_iadd hx hb dX11_plans_46 ?_
          refine lv_imul hx hb dX11_plans_47 ?_
          refine lv_iload_n hx hb dX11_plans_48 rfl (lv_at hl 3 rfl) ?_
          refine lv_iload hx hb dX11_plans_49 (lv_at hl 5 rfl) ?_
          refine lv_iadd hx hb dX11_plans_51 ?_
          refine lv_bipush (v := 99) hx hb dX11_plans_52 (by decide) ?_
          refine lv_icmp_ge (tgt := 64) hx hb dX11_plans_54 (by decide) (fun h54 => ?_) (fun h54 => ?_)
          · have hg := zp hg h54
            refine lv_bipush (v := 99) hx hb dX11_plans_64 (by decide) ?_
            exact B66 k3 hk3 k9 hk9 (g_X11_plans_21 a_M_now x1 k3 k9 n) ih x2 x3 x4 x5 (100 * (x2 + 1)) 99 a_M_most _ _ _ hl hP hD hS hg
          · have hg := zn hg h54
            refine lv_iload_n hx hb dX11_plans_57 rfl (lv_at hl 3 rfl) ?_
            refine lv_iload hx hb dX11_plans_58 (lv_at hl 5 rfl) ?_
            refine lv_iadd hx hb dX11_plans_60 ?_
            refine lv_goto (tgt := 66) hx hb dX11_plans_61 (by decide) ?_
            exact B66 k3 hk3 k9 hk9 (g_X11_plans_21 a_M_now x1 k3 k9 n) ih x2 x3 x4 x5 (100 * (x2 + 1)) (x3 + x5) a_M_most _ _ _ hl hP hD hS hg
  have B9 : ∀ (k3 : Int32 → (Nat → Int32) → Option ((Nat → Int32))) (hk3 : ∀ (x2 : Int32) (a_M_most : Nat → Int32) (H : Heap) (locs : List Loc) (ls : Array Slot) (hl : lv_has ls 7 [(0, .ref q_M), (1, .int x1), (2, .int x2)]) (hP : va_P D vwCl (ws_X11_plans cI cJ cZ cA q_M q_M_now q_M_most u_M_images u_M_kept u_M_text u_M_size u_M_sign u_M_manyAbove u_M_manyBelow u_M_above u_M_below u_M_refused u_M_at u_M_begin u_M_kind u_M_value u_M_read u_M_acts u_M_act u_M_waits u_M_wait u_M_held u_M_place u_M_heap u_M_clocks u_M_counts u_M_talking u_M_hasA u_M_hasB u_M_talks u_M_big a_M_now a_M_most) H) (hD : va_D A (ws_X11_plans cI cJ cZ cA q_M q_M_now q_M_most u_M_images u_M_kept u_M_text u_M_size u_M_sign u_M_manyAbove u_M_manyBelow u_M_above u_M_below u_M_refused u_M_at u_M_begin u_M_kind u_M_value u_M_read u_M_acts u_M_act u_M_waits u_M_wait u_M_held u_M_place u_M_heap u_M_clocks u_M_counts u_M_talking u_M_hasA u_M_hasB u_M_talks u_M_big a_M_now a_M_most)) (hS : va_S A s.heap H locs), k3 x2 a_M_most = some o → W p l e rm_X11_plans s m args below meth c H locs 0 0 Q (F0 m 3 ls []))  (n : Nat) (x2 : Int32) (x3 : Int32) (a_M_most : Nat → Int32) (H : Heap) (locs : List Loc) (ls : Array Slot) (hl : lv_has ls 7 [(0, .ref q_M), (1, .int x1), (2, .int x2), (3, .int x3)]) (hP : va_P D vwCl (ws_X11_plans cI cJ cZ cA q_M q_M_now q_M_most u_M_images u_M_kept u_M_text u_M_size u_M_sign u_M_manyAbove u_M_manyBelow u_M_above u_M_below u_M_refused u_M_at u_M_begin u_M_kind u_M_value u_M_read u_M_acts u_M_act u_M_waits u_M_wait u_M_held u_M_place u_M_heap u_M_clocks u_M_counts u_M_talking u_M_hasA u_M_hasB u_M_talks u_M_big a_M_now a_M_most) H) (hD : va_D A (ws_X11_plans cI cJ cZ cA q_M q_M_now q_M_most u_M_images u_M_kept u_M_text u_M_size u_M_sign u_M_manyAbove u_M_manyBelow u_M_above u_M_below u_M_refused u_M_at u_M_begin u_M_kind u_M_value u_M_read u_M_acts u_M_act u_M_waits u_M_wait u_M_held u_M_place u_M_heap u_M_clocks u_M_counts u_M_talking u_M_hasA u_M_hasB u_M_talks u_M_big a_M_now a_M_most)) (hS : va_S A s.heap H locs), g_X11_plans_9 a_M_now x1 k3 n x2 x3 a_M_most = some o → W p l e rm_X11_plans s m args below meth c H locs 0 0 Q (F0 m 9 ls []) := by
    intro k3 hk3 n
    induction n with
    | zero => intro x2 x3 a_M_most H locs ls hl hP hD hS hg; exact nomatch (show (none : Option ((Nat → Int32))) = some o from hg)
    | succ n ih =>
      intro x2 x3 a_M_most H locs ls hl hP hD hS hg
      have hg : g_X11_plans_9b a_M_now x1 k3 (g_X11_plans_9 a_M_now x1 k3 n) x2 x3 a_M_most = some o := hg
      refine lv_iload_n hx hb dX11_plans_9 rfl (lv_at hl 3 rfl) ?_
      refine lv_bipush (v := 100) hx hb dX11_plans_10 (by decide) ?_
      refine lv_icmp_ge (tgt := 188) hx hb dX11_plans_12 (by decide) (fun h12 => ?_) (fun h12 => ?_)
      · have hg := zp hg h12
        refine lv_iinc (k := 2) (v := x2 + (-1)) (lv' := [(2, .int (x2 + (-1))), (0, .ref q_M), (1, .int x1), (3, .int x3)]) hx hb dX11_plans_188 hl rfl (zinc (by decide)) (by decide) rfl (fun ls hl => ?_)
        refine lv_goto (tgt := 3) hx hb dX11_plans_191 (by decide) ?_
        exact hk3 (x2 + (-1)) a_M_most _ _ _ (lv_sub hl [1, 2, 0] rfl) hP hD hS hg
      · have hg := zn hg h12
        refine lv_iconst (v := 0) hx hb dX11_plans_15 (by decide) ?_
        refine lv_istore (lv' := [(4, .int 0), (0, .ref q_M), (1, .int x1), (2, .int x2), (3, .int x3)]) hx hb dX11_plans_16 hl (by decide) rfl (fun ls hl => ?_)
        refine lv_iconst (v := 0) hx hb dX11_plans_18 (by decide) ?_
        refine lv_istore (lv' := [(5, .int 0), (4, .int 0), (0, .ref q_M), (1, .int x1), (2, .int x2), (3, .int x3)]) hx hb dX11_plans_19 hl (by decide) rfl (fun ls hl => ?_)
        exact B21 k3 hk3 (g_X11_plans_9 a_M_now x1 k3 n) ih zF x2 x3 0 0 a_M_most _ _ _ (lv_sub hl [2, 3, 4, 5, 1, 0] rfl) hP hD hS hg
  have B3 : ∀  (n : Nat) (x2 : Int32) (a_M_most : Nat → Int32) (H : Heap) (locs : List Loc) (ls : Array Slot) (hl : lv_has ls 7 [(0, .ref q_M), (1, .int x1), (2, .int x2)]) (hP : va_P D vwCl (ws_X11_plans cI cJ cZ cA q_M q_M_now q_M_most u_M_images u_M_kept u_M_text u_M_size u_M_sign u_M_manyAbove u_M_manyBelow u_M_above u_M_below u_M_refused u_M_at u_M_begin u_M_kind u_M_value u_M_read u_M_acts u_M_act u_M_waits u_M_wait u_M_held u_M_place u_M_heap u_M_clocks u_M_counts u_M_talking u_M_hasA u_M_hasB u_M_talks u_M_big a_M_now a_M_most) H) (hD : va_D A (ws_X11_plans cI cJ cZ cA q_M q_M_now q_M_most u_M_images u_M_kept u_M_text u_M_size u_M_sign u_M_manyAbove u_M_manyBelow u_M_above u_M_below u_M_refused u_M_at u_M_begin u_M_kind u_M_value u_M_read u_M_acts u_M_act u_M_waits u_M_wait u_M_held u_M_place u_M_heap u_M_clocks u_M_counts u_M_talking u_M_hasA u_M_hasB u_M_talks u_M_big a_M_now a_M_most)) (hS : va_S A s.heap H locs), g_X11_plans_3 a_M_now x1 n x2 a_M_most = some o → W p l e rm_X11_plans s m args below meth c H locs 0 0 Q (F0 m 3 ls []) := by
    intro  n
    induction n with
    | zero => intro x2 a_M_most H locs ls hl hP hD hS hg; exact nomatch (show (none : Option ((Nat → Int32))) = some o from hg)
    | succ n ih =>
      intro x2 a_M_most H locs ls hl hP hD hS hg
      have hg : g_X11_plans_3b a_M_now x1 (g_X11_plans_3 a_M_now x1 n) x2 a_M_most = some o := hg
      refine lv_iload_n hx hb dX11_plans_3 rfl (lv_at hl 2 rfl) ?_
      refine lv_if_lt (tgt := 194) hx hb dX11_plans_4 (by decide) (fun h4 => ?_) (fun h4 => ?_)
      · have hg := zp hg h4
        exact hret a_M_most hg _ _ _ _ hP hS dX11_plans_194
      · have hg := zn hg h4
        refine lv_iconst (v := 0) hx hb dX11_plans_7 (by decide) ?_
        refine lv_istore_n (lv' := [(3, .int 0), (0, .ref q_M), (1, .int x1), (2, .int x2)]) hx hb dX11_plans_8 rfl hl (by decide) rfl (fun ls hl => ?_)
        exact B9 (g_X11_plans_3 a_M_now x1 n) ih zF x2 0 a_M_most _ _ _ (lv_sub hl [1, 2, 3, 0] rfl) hP hD hS hg
  refine lv_bipush (v := 99) hx hb dX11_plans_0 (by decide) ?_
  refine lv_istore_n (lv' := [(2, .int 99), (0, .ref q_M), (1, .int x1)]) hx hb dX11_plans_2 rfl hl (by decide) rfl (fun ls hl => ?_)
  exact B3 zF 99 a_M_most _ _ _ (lv_sub hl [1, 2, 0] rfl) hP hD hS hg

/-! SpokenClockModel.best(I)I -/
abbrev ws_X11_best (cI cJ cZ cA : ClassId) (q_M q_M_now q_M_most q_M_refused : Nat) (u_M_images : Value) (u_M_kept : Value) (u_M_text : Value) (u_M_size : Value) (u_M_sign : Value) (u_M_manyAbove : Value) (u_M_manyBelow : Value) (u_M_above : Value) (u_M_below : Value) (u_M_at : Value) (u_M_begin : Value) (u_M_kind : Value) (u_M_value : Value) (u_M_read : Value) (u_M_acts : Value) (u_M_act : Value) (u_M_waits : Value) (u_M_wait : Value) (u_M_held : Value) (u_M_place : Value) (u_M_heap : Value) (u_M_clocks : Value) (u_M_counts : Value) (u_M_talking : Value) (u_M_hasA : Value) (u_M_hasB : Value) (u_M_talks : Value) (u_M_big : Value) (a_M_now : Nat → Int32) (a_M_most : Nat → Int32) (a_M_refused : Nat → Int32) : va_W := [(q_M, .inr (11, [.ref q_M_now, u_M_images, u_M_kept, u_M_text, u_M_size, u_M_sign, u_M_manyAbove, u_M_manyBelow, u_M_above, u_M_below, .ref q_M_refused, u_M_at, u_M_begin, u_M_kind, u_M_value, u_M_read, u_M_acts, u_M_act, u_M_waits, u_M_wait, u_M_held, u_M_place, u_M_heap, u_M_clocks, u_M_counts, u_M_talking, .ref q_M_most, u_M_hasA, u_M_hasB, u_M_talks, u_M_big])), (q_M_now, .inl (cI, 155, .inl a_M_now)), (q_M_most, .inl (cI, 10000, .inl a_M_most)), (q_M_refused, .inl (cI, 3, .inl a_M_refused))]
abbrev rm_X11_best : Room := { frames := 1, cells := 0, slots := 0, locals := 26 }
def g_X11_best (a_M_now : Nat → Int32) (x1 : Int32) (a_M_most : Nat → Int32) (a_M_refused : Nat → Int32) : Option (Int32 × (Nat → Int32) × (Nat → Int32)) :=
  (g_X11_in x1.toInt64 (0 : Int64) (9 : Int64)).bind fun v1 =>
  if v1 = 0 then (
    (g_X11_worse a_M_refused).bind fun v5 =>
    some (v5.1, a_M_most, v5.2)
  ) else (
    (g_X11_plans a_M_now x1 a_M_most).bind fun v3 =>
    some (v3 0, v3, a_M_refused)
  )
theorem hd_X11_best : yX11_best.cls = RX11 ∧ yX11_best.cls ≠ "java/lang/invoke/MethodHandle" ∧ yX11_best.cls ≠ "java/lang/invoke/VarHandle" ∧ (parseMethodDescriptor yX11_best.desc).map (fun d => d.parameters.length) = some 1 := by decide +kernel
set_option maxHeartbeats 4000000 in
set_option maxRecDepth 100000 in
theorem c_X11_best (l : Launch) (D : va_G) (cI cJ cZ cA : ClassId) (ga : Nat → Nat) (q_M q_M_now q_M_most q_M_refused : Nat) (u_M_images : Value) (u_M_kept : Value) (u_M_text : Value) (u_M_size : Value) (u_M_sign : Value) (u_M_manyAbove : Value) (u_M_manyBelow : Value) (u_M_above : Value) (u_M_below : Value) (u_M_at : Value) (u_M_begin : Value) (u_M_kind : Value) (u_M_value : Value) (u_M_read : Value) (u_M_acts : Value) (u_M_act : Value) (u_M_waits : Value) (u_M_wait : Value) (u_M_held : Value) (u_M_place : Value) (u_M_heap : Value) (u_M_clocks : Value) (u_M_counts : Value) (u_M_talking : Value) (u_M_hasA : Value) (u_M_hasB : Value) (u_M_talks : Value) (u_M_big : Value) (a_M_now : Nat → Int32) (a_M_most : Nat → Int32) (a_M_refused : Nat → Int32) (x1 : Int32) (o : Int32 × (Nat → Int32) × (Nat → Int32)) (hg : g_X11_best a_M_now x1 a_M_most a_M_refused = some o) : zM l yX11_best (Cond.code yX11_best cX11_best 2 (some .int) :: wsL_law) rm_X11_best D (zTy cI cJ cZ cA) ga [.ref q_M, .int x1] (ws_X11_best cI cJ cZ cA q_M q_M_now q_M_most q_M_refused u_M_images u_M_kept u_M_text u_M_size u_M_sign u_M_manyAbove u_M_manyBelow u_M_above u_M_below u_M_at u_M_begin u_M_kind u_M_value u_M_read u_M_acts u_M_act u_M_waits u_M_wait u_M_held u_M_place u_M_heap u_M_clocks u_M_counts u_M_talking u_M_hasA u_M_hasB u_M_talks u_M_big a_M_now a_M_most a_M_refused) (ws_X11_best cI cJ cZ cA q_M q_M_now q_M_most q_M_refused u_M_images u_M_kept u_M_text u_M_size u_M_sign u_M_manyAbove u_M_manyBelow u_M_above u_M_below u_M_at u_M_begin u_M_kind u_M_value u_M_read u_M_acts u_M_act u_M_waits u_M_wait u_M_held u_M_place u_M_heap u_M_clocks u_M_counts u_M_talking u_M_hasA u_M_hasB u_M_talks u_M_big a_M_now o.2.1 o.2.2) (some (.int o.1)) := by
  refine zenterI (own := RX11) (by decide) rfl rfl (Nat.le_of_ble_eq_true rfl) ?_
  intro p e s m args below meth c A ls Q S hA hK hG hl hP hD hS hret0
  have hx := S.1
  have hb := S.2.1
  have ht : ∀ w, w ∈ wsL_law → w.before args s = true := fun w h => S.2.2.2.2 w (List.mem_cons_of_mem _ h)
  have hret : ∀ (r9 : Int32) (a_M_most : Nat → Int32) (a_M_refused : Nat → Int32), (some (r9, a_M_most, a_M_refused) : Option (Int32 × (Nat → Int32) × (Nat → Int32))) = some o → ∀ (H : Heap) (locs : List Loc) (pc : Nat) (ls : Array Slot), va_P D vwCl (ws_X11_best cI cJ cZ cA q_M q_M_now q_M_most q_M_refused u_M_images u_M_kept u_M_text u_M_size u_M_sign u_M_manyAbove u_M_manyBelow u_M_above u_M_below u_M_at u_M_begin u_M_kind u_M_value u_M_read u_M_acts u_M_act u_M_waits u_M_wait u_M_held u_M_place u_M_heap u_M_clocks u_M_counts u_M_talking u_M_hasA u_M_hasB u_M_talks u_M_big a_M_now a_M_most a_M_refused) H → va_S A s.heap H locs → decode cX11_best pc = .ok (.ireturn, 1) → W p l e rm_X11_best s m args below meth c H locs 0 0 Q (F0 m pc ls [.int r9]) := by
    intro r9 a_M_most a_M_refused he; cases he; exact hret0
  have hl : lv_has ls 2 [(0, .ref q_M), (1, .int x1)] := hl
  refine lv_iload_n hx hb dX11_best_0 rfl (lv_at hl 1 rfl) ?_
  refine lv_i2l hx hb dX11_best_1 rfl ?_
  refine lv_lconst (v := 0) hx hb dX11_best_2 (by decide) ?_
  refine lv_ldc2 (v := 9) hx hb S.2.2.2.1 (ht _ zw_816) dX11_best_3 ?_
  obtain ⟨v1, hc2, hg⟩ := zbd hg
  refine zcallS (rest := []) S (c_X11_in l D cI cJ cZ cA ga x1.toInt64 (0 : Int64) (9 : Int64) v1 hc2) (zgS zw_220 zw_221 zw_5 zw_222) rfl hd_X11_in ⟨rfl, rfl⟩ ⟨Nat.le_of_ble_eq_true rfl, Nat.le_of_ble_eq_true rfl⟩ rfl hl.1 rfl (Nat.le_of_ble_eq_true rfl) dX11_best_6 hP hD hS hA hK hG (isC := []) rfl rfl rfl (w2 := (ws_X11_best cI cJ cZ cA q_M q_M_now q_M_most q_M_refused u_M_images u_M_kept u_M_text u_M_size u_M_sign u_M_manyAbove u_M_manyBelow u_M_above u_M_below u_M_at u_M_begin u_M_kind u_M_value u_M_read u_M_acts u_M_act u_M_waits u_M_wait u_M_held u_M_place u_M_heap u_M_clocks u_M_counts u_M_talking u_M_hasA u_M_hasB u_M_talks u_M_big a_M_now a_M_most a_M_refused)) rfl (st1 := [.int v1]) rfl (fun H locs hP hD hS => ?_)
  refine lv_if_ne (tgt := 17) hx hb dX11_best_9 (by decide) (fun h9 => ?_) (fun h9 => ?_)
  · have hg := zn hg h9
    refine lv_aload_n hx hb dX11_best_17 rfl (lv_at hl 0 rfl) ?_
    refine lv_iload_n hx hb dX11_best_18 rfl (lv_at hl 1 rfl) ?_
    obtain ⟨v3, hc4, hg⟩ := zbd hg
    refine zcallV (rest := []) S (c_X11_plans l D cI cJ cZ cA ga q_M q_M_now q_M_most u_M_images u_M_kept u_M_text u_M_size u_M_sign u_M_manyAbove u_M_manyBelow u_M_above u_M_below (.ref q_M_refused) u_M_at u_M_begin u_M_kind u_M_value u_M_read u_M_acts u_M_act u_M_waits u_M_wait u_M_held u_M_place u_M_heap u_M_clocks u_M_counts u_M_talking u_M_hasA u_M_hasB u_M_talks u_M_big a_M_now a_M_most x1 v3 hc4) (zgV zw_817 zw_818 zw_819 zw_5 zw_820) rfl hd_X11_plans ⟨rfl, rfl⟩ ⟨Nat.le_of_ble_eq_true rfl, Nat.le_of_ble_eq_true rfl⟩ 0 11 rfl rfl rfl hl.1 rfl (Nat.le_of_ble_eq_true rfl) dX11_best_19 hP hD hS hA hK hG (isC := [0, 1, 2]) rfl rfl rfl (w2 := (ws_X11_best cI cJ cZ cA q_M q_M_now q_M_most q_M_refused u_M_images u_M_kept u_M_text u_M_size u_M_sign u_M_manyAbove u_M_manyBelow u_M_above u_M_below u_M_at u_M_begin u_M_kind u_M_value u_M_read u_M_acts u_M_act u_M_waits u_M_wait u_M_held u_M_place u_M_heap u_M_clocks u_M_counts u_M_talking u_M_hasA u_M_hasB u_M_talks u_M_big a_M_now v3 a_M_refused)) rfl (st1 := []) rfl (fun H locs hP hD hS => ?_)
    refine lv_aload_n hx hb dX11_best_22 rfl (lv_at hl 0 rfl) ?_
    refine zget (C := RX11) (T := TX11) (N := 31) S hK hP 0 rfl rfl 26 (Nat.le_of_ble_eq_true rfl) zf_11 zw_165 rfl dX11_best_23 ?_
    refine lv_iconst (v := 0) hx hb dX11_best_26 (by decide) ?_
    refine ziald hx hb hK hP 2 0 rfl rfl (j := 0) (zin (by decide)) (by decide) dX11_best_27 ?_
    exact hret (v3 0) v3 a_M_refused hg _ _ _ _ hP hS dX11_best_28
  · have hg := zp hg h9
    refine lv_aload_n hx hb dX11_best_12 rfl (lv_at hl 0 rfl) ?_
    obtain ⟨v5, hc6, hg⟩ := zbd hg
    refine zcallV (rest := []) S (c_X11_worse l D cI cJ cZ cA ga q_M q_M_refused (.ref q_M_now) u_M_images u_M_kept u_M_text u_M_size u_M_sign u_M_manyAbove u_M_manyBelow u_M_above u_M_below u_M_at u_M_begin u_M_kind u_M_value u_M_read u_M_acts u_M_act u_M_waits u_M_wait u_M_held u_M_place u_M_heap u_M_clocks u_M_counts u_M_talking (.ref q_M_most) u_M_hasA u_M_hasB u_M_talks u_M_big a_M_refused v5 hc6) (zgV zw_769 zw_770 zw_771 zw_5 zw_772) rfl hd_X11_worse ⟨rfl, rfl⟩ ⟨Nat.le_of_ble_eq_true rfl, Nat.le_of_ble_eq_true rfl⟩ 0 11 rfl rfl rfl hl.1 rfl (Nat.le_of_ble_eq_true rfl) dX11_best_13 hP hD hS hA hK hG (isC := [0, 3]) rfl rfl rfl (w2 := (ws_X11_best cI cJ cZ cA q_M q_M_now q_M_most q_M_refused u_M_images u_M_kept u_M_text u_M_size u_M_sign u_M_manyAbove u_M_manyBelow u_M_above u_M_below u_M_at u_M_begin u_M_kind u_M_value u_M_read u_M_acts u_M_act u_M_waits u_M_wait u_M_held u_M_place u_M_heap u_M_clocks u_M_counts u_M_talking u_M_hasA u_M_hasB u_M_talks u_M_big a_M_now a_M_most v5.2)) rfl (st1 := [.int v5.1]) rfl (fun H locs hP hD hS => ?_)
    exact hret v5.1 a_M_most v5.2 hg _ _ _ _ hP hS dX11_best_16

/-! SpokenClockModel.step(II)I -/
abbrev ws_X11_step (cI cJ cZ cA : ClassId) (q_M q_M_refused q_M_now q_M_most : Nat) (u_M_images : Value) (u_M_kept : Value) (u_M_text : Value) (u_M_size : Value) (u_M_sign : Value) (u_M_manyAbove : Value) (u_M_manyBelow : Value) (u_M_above : Value) (u_M_below : Value) (u_M_at : Value) (u_M_begin : Value) (u_M_kind : Value) (u_M_value : Value) (u_M_read : Value) (u_M_acts : Value) (u_M_act : Value) (u_M_waits : Value) (u_M_wait : Value) (u_M_held : Value) (u_M_place : Value) (u_M_heap : Value) (u_M_clocks : Value) (u_M_counts : Value) (u_M_talking : Value) (u_M_hasA : Value) (u_M_hasB : Value) (u_M_talks : Value) (u_M_big : Value) (a_M_refused : Nat → Int32) (a_M_now : Nat → Int32) (a_M_most : Nat → Int32) : va_W := [(q_M, .inr (11, [.ref q_M_now, u_M_images, u_M_kept, u_M_text, u_M_size, u_M_sign, u_M_manyAbove, u_M_manyBelow, u_M_above, u_M_below, .ref q_M_refused, u_M_at, u_M_begin, u_M_kind, u_M_value, u_M_read, u_M_acts, u_M_act, u_M_waits, u_M_wait, u_M_held, u_M_place, u_M_heap, u_M_clocks, u_M_counts, u_M_talking, .ref q_M_most, u_M_hasA, u_M_hasB, u_M_talks, u_M_big])), (q_M_refused, .inl (cI, 3, .inl a_M_refused)), (q_M_now, .inl (cI, 155, .inl a_M_now)), (q_M_most, .inl (cI, 10000, .inl a_M_most))]
abbrev rm_X11_step : Room := { frames := 1, cells := 0, slots := 0, locals := 26 }
def g_X11_step_24 (a_M_now : Nat → Int32) (x1 : Int32) (x2 : Int32) (a_M_refused : Nat → Int32) (a_M_most : Nat → Int32) : Option (Int32 × (Nat → Int32) × (Nat → Int32)) :=
  (g_X11_refuse (-2) a_M_refused).bind fun v3 =>
  some (v3.1, v3.2, a_M_most)
def g_X11_step_152 (a_M_now : Nat → Int32) (x1 : Int32) (x2 : Int32) (k44 : Int32 → Int32 → Int32 → (Nat → Int32) → (Nat → Int32) → Option (Int32 × (Nat → Int32) × (Nat → Int32))) (x4 : Int32) (x5 : Int32) (t0 : Int32) (a_M_refused : Nat → Int32) (a_M_most : Nat → Int32) : Option (Int32 × (Nat → Int32) × (Nat → Int32)) :=
  k44 t0 x4 (x5 + 1) a_M_refused a_M_most
def g_X11_step_128 (a_M_now : Nat → Int32) (x1 : Int32) (x2 : Int32) (k44 : Int32 → Int32 → Int32 → (Nat → Int32) → (Nat → Int32) → Option (Int32 × (Nat → Int32) × (Nat → Int32))) (k59 : Int32 → Int32 → Int32 → Int32 → Int32 → (Nat → Int32) → (Nat → Int32) → Option (Int32 × (Nat → Int32) × (Nat → Int32))) (x3 : Int32) (x4 : Int32) (x5 : Int32) (x6 : Int32) (x7 : Int32) (a_M_refused : Nat → Int32) (a_M_most : Nat → Int32) : Option (Int32 × (Nat → Int32) × (Nat → Int32)) :=
  k59 x3 x4 x5 x6 (x7 + 1) a_M_refused a_M_most
def g_X11_step_120 (a_M_now : Nat → Int32) (x1 : Int32) (x2 : Int32) (k44 : Int32 → Int32 → Int32 → (Nat → Int32) → (Nat → Int32) → Option (Int32 × (Nat → Int32) × (Nat → Int32))) (k59 : Int32 → Int32 → Int32 → Int32 → Int32 → (Nat → Int32) → (Nat → Int32) → Option (Int32 × (Nat → Int32) × (Nat → Int32))) (x3 : Int32) (x5 : Int32) (x7 : Int32) (x8 : Int32) (a_M_refused : Nat → Int32) (a_M_most : Nat → Int32) : Option (Int32 × (Nat → Int32) × (Nat → Int32)) :=
  g_X11_step_128 a_M_now x1 x2 k44 k59 x3 x7 x5 x8 x7 a_M_refused a_M_most
def g_X11_step_99 (a_M_now : Nat → Int32) (x1 : Int32) (x2 : Int32) (k44 : Int32 → Int32 → Int32 → (Nat → Int32) → (Nat → Int32) → Option (Int32 × (Nat → Int32) × (Nat → Int32))) (k59 : Int32 → Int32 → Int32 → Int32 → Int32 → (Nat → Int32) → (Nat → Int32) → Option (Int32 × (Nat → Int32) × (Nat → Int32))) (x3 : Int32) (x4 : Int32) (x5 : Int32) (x6 : Int32) (x7 : Int32) (t1 : Int32) (t2 : Int32) (a_M_refused : Nat → Int32) (a_M_most : Nat → Int32) : Option (Int32 × (Nat → Int32) × (Nat → Int32)) :=
  if (t1 + t2) < 0 ∨ 10000 ≤ (t1 + t2).toNatClampNeg then none else
  if x7 = 0 then (
    g_X11_step_120 a_M_now x1 x2 k44 k59 x3 x5 x7 ((a_M_most ((t1 + t2).toNatClampNeg)) - (x1 * x7)) a_M_refused a_M_most
  ) else (
    if ((a_M_most ((t1 + t2).toNatClampNeg)) - (x1 * x7)) ≤ x6 then (
      g_X11_step_128 a_M_now x1 x2 k44 k59 x3 x4 x5 x6 x7 a_M_refused a_M_most
    ) else (
      g_X11_step_120 a_M_now x1 x2 k44 k59 x3 x5 x7 ((a_M_most ((t1 + t2).toNatClampNeg)) - (x1 * x7)) a_M_refused a_M_most
    )
  )
def g_X11_step_59b (a_M_now : Nat → Int32) (x1 : Int32) (x2 : Int32) (k44 : Int32 → Int32 → Int32 → (Nat → Int32) → (Nat → Int32) → Option (Int32 × (Nat → Int32) × (Nat → Int32))) (k59 : Int32 → Int32 → Int32 → Int32 → Int32 → (Nat → Int32) → (Nat → Int32) → Option (Int32 × (Nat → Int32) × (Nat → Int32))) (x3 : Int32) (x4 : Int32) (x5 : Int32) (x6 : Int32) (x7 : Int32) (a_M_refused : Nat → Int32) (a_M_most : Nat → Int32) : Option (Int32 × (Nat → Int32) × (Nat → Int32)) :=
  if (a_M_now 0) < x7 then (
    if 99 ≤ (x3 + x4) then (
      g_X11_step_152 a_M_now x1 x2 k44 x4 x5 99 a_M_refused a_M_most
    ) else (
      g_X11_step_152 a_M_now x1 x2 k44 x4 x5 (x3 + x4) a_M_refused a_M_most
    )
  ) else (
    if 99 ≤ (x3 + x7) then (
      g_X11_step_99 a_M_now x1 x2 k44 k59 x3 x4 x5 x6 x7 (100 * (x5 + 1)) 99 a_M_refused a_M_most
    ) else (
      g_X11_step_99 a_M_now x1 x2 k44 k59 x3 x4 x5 x6 x7 (100 * (x5 + 1)) (x3 + x7) a_M_refused a_M_most
    )
  )
def g_X11_step_59 (a_M_now : Nat → Int32) (x1 : Int32) (x2 : Int32) (k44 : Int32 → Int32 → Int32 → (Nat → Int32) → (Nat → Int32) → Option (Int32 × (Nat → Int32) × (Nat → Int32))) : Nat → Int32 → Int32 → Int32 → Int32 → Int32 → (Nat → Int32) → (Nat → Int32) → Option (Int32 × (Nat → Int32) × (Nat → Int32))
  | 0, _, _, _, _, _, _, _ => none
  | n + 1, x3, x4, x5, x6, x7, a_M_refused, a_M_most => g_X11_step_59b a_M_now x1 x2 k44 (g_X11_step_59 a_M_now x1 x2 k44 n) x3 x4 x5 x6 x7 a_M_refused a_M_most
def g_X11_step_44b (a_M_now : Nat → Int32) (x1 : Int32) (x2 : Int32) (k44 : Int32 → Int32 → Int32 → (Nat → Int32) → (Nat → Int32) → Option (Int32 × (Nat → Int32) × (Nat → Int32))) (x3 : Int32) (x4 : Int32) (x5 : Int32) (a_M_refused : Nat → Int32) (a_M_most : Nat → Int32) : Option (Int32 × (Nat → Int32) × (Nat → Int32)) :=
  if x2 < x5 then (
    some (x4, a_M_refused, a_M_most)
  ) else (
    g_X11_step_59 a_M_now x1 x2 k44 zF x3 0 x5 0 0 a_M_refused a_M_most
  )
def g_X11_step_44 (a_M_now : Nat → Int32) (x1 : Int32) (x2 : Int32) : Nat → Int32 → Int32 → Int32 → (Nat → Int32) → (Nat → Int32) → Option (Int32 × (Nat → Int32) × (Nat → Int32))
  | 0, _, _, _, _, _ => none
  | n + 1, x3, x4, x5, a_M_refused, a_M_most => g_X11_step_44b a_M_now x1 x2 (g_X11_step_44 a_M_now x1 x2 n) x3 x4 x5 a_M_refused a_M_most
def g_X11_step (a_M_now : Nat → Int32) (x1 : Int32) (x2 : Int32) (a_M_refused : Nat → Int32) (a_M_most : Nat → Int32) : Option (Int32 × (Nat → Int32) × (Nat → Int32)) :=
  (g_X11_in x1.toInt64 (0 : Int64) (9 : Int64)).bind fun v1 =>
  if v1 = 0 then (
    g_X11_step_24 a_M_now x1 x2 a_M_refused a_M_most
  ) else (
    (g_X11_in x2.toInt64 (0 : Int64) (98 : Int64)).bind fun v5 =>
    if v5 = 0 then (
      g_X11_step_24 a_M_now x1 x2 a_M_refused a_M_most
    ) else (
      (g_X11_plans a_M_now x1 a_M_most).bind fun v7 =>
      g_X11_step_44 a_M_now x1 x2 zF 0 0 0 a_M_refused v7
    )
  )
theorem hd_X11_step : yX11_step.cls = RX11 ∧ yX11_step.cls ≠ "java/lang/invoke/MethodHandle" ∧ yX11_step.cls ≠ "java/lang/invoke/VarHandle" ∧ (parseMethodDescriptor yX11_step.desc).map (fun d => d.parameters.length) = some 2 := by decide +kernel
set_option maxHeartbeats 4000000 in
set_option maxRecDepth 100000 in
theorem c_X11_step (l : Launch) (D : va_G) (cI cJ cZ cA : ClassId) (ga : Nat → Nat) (q_M q_M_refused q_M_now q_M_most : Nat) (u_M_images : Value) (u_M_kept : Value) (u_M_text : Value) (u_M_size : Value) (u_M_sign : Value) (u_M_manyAbove : Value) (u_M_manyBelow : Value) (u_M_above : Value) (u_M_below : Value) (u_M_at : Value) (u_M_begin : Value) (u_M_kind : Value) (u_M_value : Value) (u_M_read : Value) (u_M_acts : Value) (u_M_act : Value) (u_M_waits : Value) (u_M_wait : Value) (u_M_held : Value) (u_M_place : Value) (u_M_heap : Value) (u_M_clocks : Value) (u_M_counts : Value) (u_M_talking : Value) (u_M_hasA : Value) (u_M_hasB : Value) (u_M_talks : Value) (u_M_big : Value) (a_M_refused : Nat → Int32) (a_M_now : Nat → Int32) (a_M_most : Nat → Int32) (x1 : Int32) (x2 : Int32) (o : Int32 × (Nat → Int32) × (Nat → Int32)) (hg : g_X11_step a_M_now x1 x2 a_M_refused a_M_most = some o) : zM l yX11_step (Cond.code yX11_step cX11_step 9 (some .int) :: wsL_law) rm_X11_step D (zTy cI cJ cZ cA) ga [.ref q_M, .int x1, .int x2] (ws_X11_step cI cJ cZ cA q_M q_M_refused q_M_now q_M_most u_M_images u_M_kept u_M_text u_M_size u_M_sign u_M_manyAbove u_M_manyBelow u_M_above u_M_below u_M_at u_M_begin u_M_kind u_M_value u_M_read u_M_acts u_M_act u_M_waits u_M_wait u_M_held u_M_place u_M_heap u_M_clocks u_M_counts u_M_talking u_M_hasA u_M_hasB u_M_talks u_M_big a_M_refused a_M_now a_M_most) (ws_X11_step cI cJ cZ cA q_M q_M_refused q_M_now q_M_most u_M_images u_M_kept u_M_text u_M_size u_M_sign u_M_manyAbove u_M_manyBelow u_M_above u_M_below u_M_at u_M_begin u_M_kind u_M_value u_M_read u_M_acts u_M_act u_M_waits u_M_wait u_M_held u_M_place u_M_heap u_M_clocks u_M_counts u_M_talking u_M_hasA u_M_hasB u_M_talks u_M_big o.2.1 a_M_now o.2.2) (some (.int o.1)) := by
  refine zenterI (own := RX11) (by decide) rfl rfl (Nat.le_of_ble_eq_true rfl) ?_
  intro p e s m args below meth c A ls Q S hA hK hG hl hP hD hS hret0
  have hx := S.1
  have hb := S.2.1
  have ht : ∀ w, w ∈ wsL_law → w.before args s = true := fun w h => S.2.2.2.2 w (List.mem_cons_of_mem _ h)
  have hret : ∀ (r9 : Int32) (a_M_refused : Nat → Int32) (a_M_most : Nat → Int32), (some (r9, a_M_refused, a_M_most) : Option (Int32 × (Nat → Int32) × (Nat → Int32))) = some o → ∀ (H : Heap) (locs : List Loc) (pc : Nat) (ls : Array Slot), va_P D vwCl (ws_X11_step cI cJ cZ cA q_M q_M_refused q_M_now q_M_most u_M_images u_M_kept u_M_text u_M_size u_M_sign u_M_manyAbove u_M_manyBelow u_M_above u_M_below u_M_at u_M_begin u_M_kind u_M_value u_M_read u_M_acts u_M_act u_M_waits u_M_wait u_M_held u_M_place u_M_heap u_M_clocks u_M_counts u_M_talking u_M_hasA u_M_hasB u_M_talks u_M_big a_M_refused a_M_now a_M_most) H → va_S A s.heap H locs → decode cX11_step pc = .ok (.ireturn, 1) → W p l e rm_X11_step s m args below meth c H locs 0 0 Q (F0 m pc ls [.int r9]) := by
    intro r9 a_M_refused a_M_most he; cases he; exact hret0
  have hl : lv_has ls 9 [(0, .ref q_M), (1, .int x1), (2, .int x2)] := hl
  have B24 : ∀ (a_M_refused : Nat → Int32) (a_M_most : Nat → Int32) (H : Heap) (locs : List Loc) (ls : Array Slot) (hl : lv_has ls 9 [(0, .ref q_M)]) (hP : va_P D vwCl (ws_X11_step cI cJ cZ cA q_M q_M_refused q_M_now q_M_most u_M_images u_M_kept u_M_text u_M_size u_M_sign u_M_manyAbove u_M_manyBelow u_M_above u_M_below u_M_at u_M_begin u_M_kind u_M_value u_M_read u_M_acts u_M_act u_M_waits u_M_wait u_M_held u_M_place u_M_heap u_M_clocks u_M_counts u_M_talking u_M_hasA u_M_hasB u_M_talks u_M_big a_M_refused a_M_now a_M_most) H) (hD : va_D A (ws_X11_step cI cJ cZ cA q_M q_M_refused q_M_now q_M_most u_M_images u_M_kept u_M_text u_M_size u_M_sign u_M_manyAbove u_M_manyBelow u_M_above u_M_below u_M_at u_M_begin u_M_kind u_M_value u_M_read u_M_acts u_M_act u_M_waits u_M_wait u_M_held u_M_place u_M_heap u_M_clocks u_M_counts u_M_talking u_M_hasA u_M_hasB u_M_talks u_M_big a_M_refused a_M_now a_M_most)) (hS : va_S A s.heap H locs), g_X11_step_24 a_M_now x1 x2 a_M_refused a_M_most = some o → W p l e rm_X11_step s m args below meth c H locs 0 0 Q (F0 m 24 ls []) := by
    intro  a_M_refused a_M_most H locs ls hl hP hD hS hg
    refine lv_aload_n hx hb dX11_step_24 rfl (lv_at hl 0 rfl) ?_
    refine lv_bipush (v := (-2)) hx hb dX11_step_25 (by decide) ?_
    obtain ⟨v3, hc4, hg⟩ := zbd hg
    refine zcallV (rest := []) S (c_X11_refuse l D cI cJ cZ cA ga q_M q_M_refused (.ref q_M_now) u_M_images u_M_kept u_M_text u_M_size u_M_sign u_M_manyAbove u_M_manyBelow u_M_above u_M_below u_M_at u_M_begin u_M_kind u_M_value u_M_read u_M_acts u_M_act u_M_waits u_M_wait u_M_held u_M_place u_M_heap u_M_clocks u_M_counts u_M_talking (.ref q_M_most) u_M_hasA u_M_hasB u_M_talks u_M_big a_M_refused (-2) v3 hc4) (zgV zw_223 zw_224 zw_225 zw_5 zw_226) rfl hd_X11_refuse ⟨rfl, rfl⟩ ⟨Nat.le_of_ble_eq_true rfl, Nat.le_of_ble_eq_true rfl⟩ 0 11 rfl rfl rfl hl.1 rfl (Nat.le_of_ble_eq_true rfl) dX11_step_27 hP hD hS hA hK hG (isC := [0, 1]) rfl rfl rfl (w2 := (ws_X11_step cI cJ cZ cA q_M q_M_refused q_M_now q_M_most u_M_images u_M_kept u_M_text u_M_size u_M_sign u_M_manyAbove u_M_manyBelow u_M_above u_M_below u_M_at u_M_begin u_M_kind u_M_value u_M_read u_M_acts u_M_act u_M_waits u_M_wait u_M_held u_M_place u_M_heap u_M_clocks u_M_counts u_M_talking u_M_hasA u_M_hasB u_M_talks u_M_big v3.2 a_M_now a_M_most)) rfl (st1 := [.int v3.1]) rfl (fun H locs hP hD hS => ?_)
    exact hret v3.1 v3.2 a_M_most hg _ _ _ _ hP hS dX11_step_30
  have B152 : ∀ (k44 : Int32 → Int32 → Int32 → (Nat → Int32) → (Nat → Int32) → Option (Int32 × (Nat → Int32) × (Nat → Int32))) (hk44 : ∀ (x3 : Int32) (x4 : Int32) (x5 : Int32) (a_M_refused : Nat → Int32) (a_M_most : Nat → Int32) (H : Heap) (locs : List Loc) (ls : Array Slot) (hl : lv_has ls 9 [(0, .ref q_M), (1, .int x1), (2, .int x2), (3, .int x3), (4, .int x4), (5, .int x5)]) (hP : va_P D vwCl (ws_X11_step cI cJ cZ cA q_M q_M_refused q_M_now q_M_most u_M_images u_M_kept u_M_text u_M_size u_M_sign u_M_manyAbove u_M_manyBelow u_M_above u_M_below u_M_at u_M_begin u_M_kind u_M_value u_M_read u_M_acts u_M_act u_M_waits u_M_wait u_M_held u_M_place u_M_heap u_M_clocks u_M_counts u_M_talking u_M_hasA u_M_hasB u_M_talks u_M_big a_M_refused a_M_now a_M_most) H) (hD : va_D A (ws_X11_step cI cJ cZ cA q_M q_M_refused q_M_now q_M_most u_M_images u_M_kept u_M_text u_M_size u_M_sign u_M_manyAbove u_M_manyBelow u_M_above u_M_below u_M_at u_M_begin u_M_kind u_M_value u_M_read u_M_acts u_M_act u_M_waits u_M_wait u_M_held u_M_place u_M_heap u_M_clocks u_M_counts u_M_talking u_M_hasA u_M_hasB u_M_talks u_M_big a_M_refused a_M_now a_M_most)) (hS : va_S A s.heap H locs), k44 x3 x4 x5 a_M_refused a_M_most = some o → W p l e rm_X11_step s m args below meth c H locs 0 0 Q (F0 m 44 ls [])) (x4 : Int32) (x5 : Int32) (t0 : Int32) (a_M_refused : Nat → Int32) (a_M_most : Nat → Int32) (H : Heap) (locs : List Loc) (ls : Array Slot) (hl : lv_has ls 9 [(0, .ref q_M), (1, .int x1), (2, .int x2), (4, .int x4), (5, .int x5)]) (hP : va_P D vwCl (ws_X11_step cI cJ cZ cA q_M q_M_refused q_M_now q_M_most u_M_images u_M_kept u_M_text u_M_size u_M_sign u_M_manyAbove u_M_manyBelow u_M_above u_M_below u_M_at u_M_begin u_M_kind u_M_value u_M_read u_M_acts u_M_act u_M_waits u_M_wait u_M_held u_M_place u_M_heap u_M_clocks u_M_counts u_M_talking u_M_hasA u_M_hasB u_M_talks u_M_big a_M_refused a_M_now a_M_most) H) (hD : va_D A (ws_X11_step cI cJ cZ cA q_M q_M_refused q_M_now q_M_most u_M_images u_M_kept u_M_text u_M_size u_M_sign u_M_manyAbove u_M_manyBelow u_M_above u_M_below u_M_at u_M_begin u_M_kind u_M_value u_M_read u_M_acts u_M_act u_M_waits u_M_wait u_M_held u_M_place u_M_heap u_M_clocks u_M_counts u_M_talking u_M_hasA u_M_hasB u_M_talks u_M_big a_M_refused a_M_now a_M_most)) (hS : va_S A s.heap H locs), g_X11_step_152 a_M_now x1 x2 k44 x4 x5 t0 a_M_refused a_M_most = some o → W p l e rm_X11_step s m args below meth c H locs 0 0 Q (F0 m 152 ls [.int t0]) := by
    intro k44 hk44 x4 x5 t0 a_M_refused a_M_most H locs ls hl hP hD hS hg
    refine lv_istore_n (lv' := [(3, .int t0), (0, .ref q_M), (1, .int x1), (2, .int x2), (4, .int x4), (5, .int x5)]) hx hb dX11_step_152 rfl hl (by decide) rfl (fun ls hl => ?_)
    refine lv_iinc (k := 5) (v := x5 + 1) (lv' := [(5, .int (x5 + 1)), (3, .int t0), (0, .ref q_M), (1, .int x1), (2, .int x2), (4, .int x4)]) hx hb dX11_step_153 hl rfl (zinc (by decide)) (by decide) rfl (fun ls hl => ?_)
    refine lv_goto (tgt := 44) hx hb dX11_step_156 (by decide) ?_
    exact hk44 t0 x4 (x5 + 1) a_M_refused a_M_most _ _ _ (lv_sub hl [2, 3, 4, 1, 5, 0] rfl) hP hD hS hg
  have B128 : ∀ (k44 : Int32 → Int32 → Int32 → (Nat → Int32) → (Nat → Int32) → Option (Int32 × (Nat → Int32) × (Nat → Int32))) (hk44 : ∀ (x3 : Int32) (x4 : Int32) (x5 : Int32) (a_M_refused : Nat → Int32) (a_M_most : Nat → Int32) (H : Heap) (locs : List Loc) (ls : Array Slot) (hl : lv_has ls 9 [(0, .ref q_M), (1, .int x1), (2, .int x2), (3, .int x3), (4, .int x4), (5, .int x5)]) (hP : va_P D vwCl (ws_X11_step cI cJ cZ cA q_M q_M_refused q_M_now q_M_most u_M_images u_M_kept u_M_text u_M_size u_M_sign u_M_manyAbove u_M_manyBelow u_M_above u_M_below u_M_at u_M_begin u_M_kind u_M_value u_M_read u_M_acts u_M_act u_M_waits u_M_wait u_M_held u_M_place u_M_heap u_M_clocks u_M_counts u_M_talking u_M_hasA u_M_hasB u_M_talks u_M_big a_M_refused a_M_now a_M_most) H) (hD : va_D A (ws_X11_step cI cJ cZ cA q_M q_M_refused q_M_now q_M_most u_M_images u_M_kept u_M_text u_M_size u_M_sign u_M_manyAbove u_M_manyBelow u_M_above u_M_below u_M_at u_M_begin u_M_kind u_M_value u_M_read u_M_acts u_M_act u_M_waits u_M_wait u_M_held u_M_place u_M_heap u_M_clocks u_M_counts u_M_talking u_M_hasA u_M_hasB u_M_talks u_M_big a_M_refused a_M_now a_M_most)) (hS : va_S A s.heap H locs), k44 x3 x4 x5 a_M_refused a_M_most = some o → W p l e rm_X11_step s m args below meth c H locs 0 0 Q (F0 m 44 ls [])) (k59 : Int32 → Int32 → Int32 → Int32 → Int32 → (Nat → Int32) → (Nat → Int32) → Option (Int32 × (Nat → Int32) × (Nat → Int32))) (hk59 : ∀ (x3 : Int32) (x4 : Int32) (x5 : Int32) (x6 : Int32) (x7 : Int32) (a_M_refused : Nat → Int32) (a_M_most : Nat → Int32) (H : Heap) (locs : List Loc) (ls : Array Slot) (hl : lv_has ls 9 [(0, .ref q_M), (1, .int x1), (2, .int x2), (3, .int x3), (4, .int x4), (5, .int x5), (6, .int x6), (7, .int x7)]) (hP : va_P D vwCl (ws_X11_step cI cJ cZ cA q_M q_M_refused q_M_now q_M_most u_M_images u_M_kept u_M_text u_M_size u_M_sign u_M_manyAbove u_M_manyBelow u_M_above u_M_below u_M_at u_M_begin u_M_kind u_M_value u_M_read u_M_acts u_M_act u_M_waits u_M_wait u_M_held u_M_place u_M_heap u_M_clocks u_M_counts u_M_talking u_M_hasA u_M_hasB u_M_talks u_M_big a_M_refused a_M_now a_M_most) H) (hD : va_D A (ws_X11_step cI cJ cZ cA q_M q_M_refused q_M_now q_M_most u_M_images u_M_kept u_M_text u_M_size u_M_sign u_M_manyAbove u_M_manyBelow u_M_above u_M_below u_M_at u_M_begin u_M_kind u_M_value u_M_read u_M_acts u_M_act u_M_waits u_M_wait u_M_held u_M_place u_M_heap u_M_clocks u_M_counts u_M_talking u_M_hasA u_M_hasB u_M_talks u_M_big a_M_refused a_M_now a_M_most)) (hS : va_S A s.heap H locs), k59 x3 x4 x5 x6 x7 a_M_refused a_M_most = some o → W p l e rm_X11_step s m args below meth c H locs 0 0 Q (F0 m 59 ls [])) (x3 : Int32) (x4 : Int32) (x5 : Int32) (x6 : Int32) (x7 : Int32) (a_M_refused : Nat → Int32) (a_M_most : Nat → Int32) (H : Heap) (locs : List Loc) (ls : Array Slot) (hl : lv_has ls 9 [(0, .ref q_M), (1, .int x1), (2, .int x2), (3, .int x3), (4, .int x4), (5, .int x5), (6, .int x6), (7, .int x7)]) (hP : va_P D vwCl (ws_X11_step cI cJ cZ cA q_M q_M_refused q_M_now q_M_most u_M_images u_M_kept u_M_text u_M_size u_M_sign u_M_manyAbove u_M_manyBelow u_M_above u_M_below u_M_at u_M_begin u_M_kind u_M_value u_M_read u_M_acts u_M_act u_M_waits u_M_wait u_M_held u_M_place u_M_heap u_M_clocks u_M_counts u_M_talking u_M_hasA u_M_hasB u_M_talks u_M_big a_M_refused a_M_now a_M_most) H) (hD : va_D A (ws_X11_step cI cJ cZ cA q_M q_M_refused q_M_now q_M_most u_M_images u_M_kept u_M_text u_M_size u_M_sign u_M_manyAbove u_M_manyBelow u_M_above u_M_below u_M_at u_M_begin u_M_kind u_M_value u_M_read u_M_acts u_M_act u_M_waits u_M_wait u_M_held u_M_place u_M_heap u_M_clocks u_M_counts u_M_talking u_M_hasA u_M_hasB u_M_talks u_M_big a_M_refused a_M_now a_M_most)) (hS : va_S A s.heap H locs), g_X11_step_128 a_M_now x1 x2 k44 k59 x3 x4 x5 x6 x7 a_M_refused a_M_most = some o → W p l e rm_X11_step s m args below meth c H locs 0 0 Q (F0 m 128 ls []) := by
    intro k44 hk44 k59 hk59 x3 x4 x5 x6 x7 a_M_refused a_M_most H locs ls hl hP hD hS hg
    refine lv_iinc (k := 7) (v := x7 + 1) (lv' := [(7, .int (x7 + 1)), (0, .ref q_M), (1, .int x1), (2, .int x2), (3, .int x3), (4, .int x4), (5, .int x5), (6, .int x6)]) hx hb dX11_step_128 hl rfl (zinc (by decide)) (by decide) rfl (fun ls hl => ?_)
    refine lv_goto (tgt := 59) hx hb dX11_step_131 (by decide) ?_
    exact hk59 x3 x4 x5 x6 (x7 + 1) a_M_refused a_M_most _ _ _ (lv_sub hl [1, 2, 3, 4, 5, 6, 7, 0] rfl) hP hD hS hg
  have B120 : ∀ (k44 : Int32 → Int32 → Int32 → (Nat → Int32) → (Nat → Int32) → Option (Int32 × (Nat → Int32) × (Nat → Int32))) (hk44 : ∀ (x3 : Int32) (x4 : Int32) (x5 : Int32) (a_M_refused : Nat → Int32) (a_M_most : Nat → Int32) (H : Heap) (locs : List Loc) (ls : Array Slot) (hl : lv_has ls 9 [(0, .ref q_M), (1, .int x1), (2, .int x2), (3, .int x3), (4, .int x4), (5, .int x5)]) (hP : va_P D vwCl (ws_X11_step cI cJ cZ cA q_M q_M_refused q_M_now q_M_most u_M_images u_M_kept u_M_text u_M_size u_M_sign u_M_manyAbove u_M_manyBelow u_M_above u_M_below u_M_at u_M_begin u_M_kind u_M_value u_M_read u_M_acts u_M_act u_M_waits u_M_wait u_M_held u_M_place u_M_heap u_M_clocks u_M_counts u_M_talking u_M_hasA u_M_hasB u_M_talks u_M_big a_M_refused a_M_now a_M_most) H) (hD : va_D A (ws_X11_step cI cJ cZ cA q_M q_M_refused q_M_now q_M_most u_M_images u_M_kept u_M_text u_M_size u_M_sign u_M_manyAbove u_M_manyBelow u_M_above u_M_below u_M_at u_M_begin u_M_kind u_M_value u_M_read u_M_acts u_M_act u_M_waits u_M_wait u_M_held u_M_place u_M_heap u_M_clocks u_M_counts u_M_talking u_M_hasA u_M_hasB u_M_talks u_M_big a_M_refused a_M_now a_M_most)) (hS : va_S A s.heap H locs), k44 x3 x4 x5 a_M_refused a_M_most = some o → W p l e rm_X11_step s m args below meth c H locs 0 0 Q (F0 m 44 ls [])) (k59 : Int32 → Int32 → Int32 → Int32 → Int32 → (Nat → Int32) → (Nat → Int32) → Option (Int32 × (Nat → Int32) × (Nat → Int32))) (hk59 : ∀ (x3 : Int32) (x4 : Int32) (x5 : Int32) (x6 : Int32) (x7 : Int32) (a_M_refused : Nat → Int32) (a_M_most : Nat → Int32) (H : Heap) (locs : List Loc) (ls : Array Slot) (hl : lv_has ls 9 [(0, .ref q_M), (1, .int x1), (2, .int x2), (3, .int x3), (4, .int x4), (5, .int x5), (6, .int x6), (7, .int x7)]) (hP : va_P D vwCl (ws_X11_step cI cJ cZ cA q_M q_M_refused q_M_now q_M_most u_M_images u_M_kept u_M_text u_M_size u_M_sign u_M_manyAbove u_M_manyBelow u_M_above u_M_below u_M_at u_M_begin u_M_kind u_M_value u_M_read u_M_acts u_M_act u_M_waits u_M_wait u_M_held u_M_place u_M_heap u_M_clocks u_M_counts u_M_talking u_M_hasA u_M_hasB u_M_talks u_M_big a_M_refused a_M_now a_M_most) H) (hD : va_D A (ws_X11_step cI cJ cZ cA q_M q_M_refused q_M_now q_M_most u_M_images u_M_kept u_M_text u_M_size u_M_sign u_M_manyAbove u_M_manyBelow u_M_above u_M_below u_M_at u_M_begin u_M_kind u_M_value u_M_read u_M_acts u_M_act u_M_waits u_M_wait u_M_held u_M_place u_M_heap u_M_clocks u_M_counts u_M_talking u_M_hasA u_M_hasB u_M_talks u_M_big a_M_refused a_M_now a_M_most)) (hS : va_S A s.heap H locs), k59 x3 x4 x5 x6 x7 a_M_refused a_M_most = some o → W p l e rm_X11_step s m args below meth c H locs 0 0 Q (F0 m 59 ls [])) (x3 : Int32) (x5 : Int32) (x7 : Int32) (x8 : Int32) (a_M_refused : Nat → Int32) (a_M_most : Nat → Int32) (H : Heap) (locs : List Loc) (ls : Array Slot) (hl : lv_has ls 9 [(0, .ref q_M), (1, .int x1), (2, .int x2), (3, .int x3), (5, .int x5), (7, .int x7), (8, .int x8)]) (hP : va_P D vwCl (ws_X11_step cI cJ cZ cA q_M q_M_refused q_M_now q_M_most u_M_images u_M_kept u_M_text u_M_size u_M_sign u_M_manyAbove u_M_manyBelow u_M_above u_M_below u_M_at u_M_begin u_M_kind u_M_value u_M_read u_M_acts u_M_act u_M_waits u_M_wait u_M_held u_M_place u_M_heap u_M_clocks u_M_counts u_M_talking u_M_hasA u_M_hasB u_M_talks u_M_big a_M_refused a_M_now a_M_most) H) (hD : va_D A (ws_X11_step cI cJ cZ cA q_M q_M_refused q_M_now q_M_most u_M_images u_M_kept u_M_text u_M_size u_M_sign u_M_manyAbove u_M_manyBelow u_M_above u_M_below u_M_at u_M_begin u_M_kind u_M_value u_M_read u_M_acts u_M_act u_M_waits u_M_wait u_M_held u_M_place u_M_heap u_M_clocks u_M_counts u_M_talking u_M_hasA u_M_hasB u_M_talks u_M_big a_M_refused a_M_now a_M_most)) (hS : va_S A s.heap H locs), g_X11_step_120 a_M_now x1 x2 k44 k59 x3 x5 x7 x8 a_M_refused a_M_most = some o → W p l e rm_X11_step s m args below meth c H locs 0 0 Q (F0 m 120 ls []) := by
    intro k44 hk44 k59 hk59 x3 x5 x7 x8 a_M_refused a_M_most H locs ls hl hP hD hS hg
    refine lv_iload hx hb dX11_step_120 (lv_at hl 6 rfl) ?_
    refine lv_istore (lv' := [(6, .int x8), (0, .ref q_M), (1, .int x1), (2, .int x2), (3, .int x3), (5, .int x5), (7, .int x7), (8, .int x8)]) hx hb dX11_step_122 hl (by decide) rfl (fun ls hl => ?_)
    refine lv_iload hx hb dX11_step_124 (lv_at hl 6 rfl) ?_
    refine lv_istore (lv' := [(4, .int x7), (6, .int x8), (0, .ref q_M), (1, .int x1), (2, .int x2), (3, .int x3), (5, .int x5), (7, .int x7), (8, .int x8)]) hx hb dX11_step_126 hl (by decide) rfl (fun ls hl => ?_)
    exact B128 k44 hk44 k59 hk59 x3 x7 x5 x8 x7 a_M_refused a_M_most _ _ _ (lv_sub hl [2, 3, 4, 5, 0, 6, 1, 7] rfl) hP hD hS hg
  have B99 : ∀ (k44 : Int32 → Int32 → Int32 → (Nat → Int32) → (Nat → Int32) → Option (Int32 × (Nat → Int32) × (Nat → Int32))) (hk44 : ∀ (x3 : Int32) (x4 : Int32) (x5 : Int32) (a_M_refused : Nat → Int32) (a_M_most : Nat → Int32) (H : Heap) (locs : List Loc) (ls : Array Slot) (hl : lv_has ls 9 [(0, .ref q_M), (1, .int x1), (2, .int x2), (3, .int x3), (4, .int x4), (5, .int x5)]) (hP : va_P D vwCl (ws_X11_step cI cJ cZ cA q_M q_M_refused q_M_now q_M_most u_M_images u_M_kept u_M_text u_M_size u_M_sign u_M_manyAbove u_M_manyBelow u_M_above u_M_below u_M_at u_M_begin u_M_kind u_M_value u_M_read u_M_acts u_M_act u_M_waits u_M_wait u_M_held u_M_place u_M_heap u_M_clocks u_M_counts u_M_talking u_M_hasA u_M_hasB u_M_talks u_M_big a_M_refused a_M_now a_M_most) H) (hD : va_D A (ws_X11_step cI cJ cZ cA q_M q_M_refused q_M_now q_M_most u_M_images u_M_kept u_M_text u_M_size u_M_sign u_M_manyAbove u_M_manyBelow u_M_above u_M_below u_M_at u_M_begin u_M_kind u_M_value u_M_read u_M_acts u_M_act u_M_waits u_M_wait u_M_held u_M_place u_M_heap u_M_clocks u_M_counts u_M_talking u_M_hasA u_M_hasB u_M_talks u_M_big a_M_refused a_M_now a_M_most)) (hS : va_S A s.heap H locs), k44 x3 x4 x5 a_M_refused a_M_most = some o → W p l e rm_X11_step s m args below meth c H locs 0 0 Q (F0 m 44 ls [])) (k59 : Int32 → Int32 → Int32 → Int32 → Int32 → (Nat → Int32) → (Nat → Int32) → Option (Int32 × (Nat → Int32) × (Nat → Int32))) (hk59 : ∀ (x3 : Int32) (x4 : Int32) (x5 : Int32) (x6 : Int32) (x7 : Int32) (a_M_refused : Nat → Int32) (a_M_most : Nat → Int32) (H : Heap) (locs : List Loc) (ls : Array Slot) (hl : lv_has ls 9 [(0, .ref q_M), (1, .int x1), (2, .int x2), (3, .int x3), (4, .int x4), (5, .int x5), (6, .int x6), (7, .int x7)]) (hP : va_P D vwCl (ws_X11_step cI cJ cZ cA q_M q_M_refused q_M_now q_M_most u_M_images u_M_kept u_M_text u_M_size u_M_sign u_M_manyAbove u_M_manyBelow u_M_above u_M_below u_M_at u_M_begin u_M_kind u_M_value u_M_read u_M_acts u_M_act u_M_waits u_M_wait u_M_held u_M_place u_M_heap u_M_clocks u_M_counts u_M_talking u_M_hasA u_M_hasB u_M_talks u_M_big a_M_refused a_M_now a_M_most) H) (hD : va_D A (ws_X11_step cI cJ cZ cA q_M q_M_refused q_M_now q_M_most u_M_images u_M_kept u_M_text u_M_size u_M_sign u_M_manyAbove u_M_manyBelow u_M_above u_M_below u_M_at u_M_begin u_M_kind u_M_value u_M_read u_M_acts u_M_act u_M_waits u_M_wait u_M_held u_M_place u_M_heap u_M_clocks u_M_counts u_M_talking u_M_hasA u_M_hasB u_M_talks u_M_big a_M_refused a_M_now a_M_most)) (hS : va_S A s.heap H locs), k59 x3 x4 x5 x6 x7 a_M_refused a_M_most = some o → W p l e rm_X11_step s m args below meth c H locs 0 0 Q (F0 m 59 ls [])) (x3 : Int32) (x4 : Int32) (x5 : Int32) (x6 : Int32) (x7 : Int32) (t1 : Int32) (t2 : Int32) (a_M_refused : Nat → Int32) (a_M_most : Nat → Int32) (H : Heap) (locs : List Loc) (ls : Array Slot) (hl : lv_has ls 9 [(0, .ref q_M), (1, .int x1), (2, .int x2), (3, .int x3), (4, .int x4), (5, .int x5), (6, .int x6), (7, .int x7)]) (hP : va_P D vwCl (ws_X11_step cI cJ cZ cA q_M q_M_refused q_M_now q_M_most u_M_images u_M_kept u_M_text u_M_size u_M_sign u_M_manyAbove u_M_manyBelow u_M_above u_M_below u_M_at u_M_begin u_M_kind u_M_value u_M_read u_M_acts u_M_act u_M_waits u_M_wait u_M_held u_M_place u_M_heap u_M_clocks u_M_counts u_M_talking u_M_hasA u_M_hasB u_M_talks u_M_big a_M_refused a_M_now a_M_most) H) (hD : va_D A (ws_X11_step cI cJ cZ cA q_M q_M_refused q_M_now q_M_most u_M_images u_M_kept u_M_text u_M_size u_M_sign u_M_manyAbove u_M_manyBelow u_M_above u_M_below u_M_at u_M_begin u_M_kind u_M_value u_M_read u_M_acts u_M_act u_M_waits u_M_wait u_M_held u_M_place u_M_heap u_M_clocks u_M_counts u_M_talking u_M_hasA u_M_hasB u_M_talks u_M_big a_M_refused a_M_now a_M_most)) (hS : va_S A s.heap H locs), g_X11_step_99 a_M_now x1 x2 k44 k59 x3 x4 x5 x6 x7 t1 t2 a_M_refused a_M_most = some o → W p l e rm_X11_step s m args below meth c H locs 0 0 Q (F0 m 99 ls [.int t2, .int t1, .ref q_M_most]) := by
    intro k44 hk44 k59 hk59 x3 x4 x5 x6 x7 t1 t2 a_M_refused a_M_most H locs ls hl hP hD hS hg
    refine lv_iadd hx hb dX11_step_99 ?_
    obtain ⟨h9, hg⟩ := zck hg
    refine ziald hx hb hK hP 3 0 rfl rfl (j := ((t1 + t2).toNatClampNeg)) h9 rfl dX11_step_100 ?_
    refine lv_iload_n hx hb dX11_step_101 rfl (lv_at hl 1 rfl) ?_
    refine lv_iload hx hb dX11_step_102 (lv_at hl 7 rfl) ?_
    refine lv_imul hx hb dX11_step_104 ?_
    refine lv_isub hx hb dX11_step_105 ?_
    refine lv_istore (lv' := [(8, .int ((a_M_most ((t1 + t2).toNatClampNeg)) - (x1 * x7))), (0, .ref q_M), (1, .int x1), (2, .int x2), (3, .int x3), (4, .int x4), (5, .int x5), (6, .int x6), (7, .int x7)]) hx hb dX11_step_106 hl (by decide) rfl (fun ls hl => ?_)
    refine lv_iload hx hb dX11_step_108 (lv_at hl 8 rfl) ?_
    refine lv_if_eq (tgt := 120) hx hb dX11_step_110 (by decide) (fun h110 => ?_) (fun h110 => ?_)
    · have hg := zp hg h110
      exact B120 k44 hk44 k59 hk59 x3 x5 x7 ((a_M_most ((t1 + t2).toNatClampNeg)) - (x1 * x7)) a_M_refused a_M_most _ _ _ (lv_sub hl [1, 2, 3, 4, 6, 8, 0] rfl) hP hD hS hg
    · have hg := zn hg h110
      refine lv_iload hx hb dX11_step_113 (lv_at hl 0 rfl) ?_
      refine lv_iload hx hb dX11_step_115 (lv_at hl 7 rfl) ?_
      refine lv_icmp_le (tgt := 128) hx hb dX11_step_117 (by decide) (fun h117 => ?_) (fun h117 => ?_)
      · have hg := zp hg h117
        exact B128 k44 hk44 k59 hk59 x3 x4 x5 x6 x7 a_M_refused a_M_most _ _ _ (lv_sub hl [1, 2, 3, 4, 5, 6, 7, 8] rfl) hP hD hS hg
      · have hg := zn hg h117
        exact B120 k44 hk44 k59 hk59 x3 x5 x7 ((a_M_most ((t1 + t2).toNatClampNeg)) - (x1 * x7)) a_M_refused a_M_most _ _ _ (lv_sub hl [1, 2, 3, 4, 6, 8, 0] rfl) hP hD hS hg
  have B59 : ∀ (k44 : Int32 → Int32 → Int32 → (Nat → Int32) → (Nat → Int32) → Option (Int32 × (Nat → Int32) × (Nat → Int32))) (hk44 : ∀ (x3 : Int32) (x4 : Int32) (x5 : Int32) (a_M_refused : Nat → Int32) (a_M_most : Nat → Int32) (H : Heap) (locs : List Loc) (ls : Array Slot) (hl : lv_has ls 9 [(0, .ref q_M), (1, .int x1), (2, .int x2), (3, .int x3), (4, .int x4), (5, .int x5)]) (hP : va_P D vwCl (ws_X11_step cI cJ cZ cA q_M q_M_refused q_M_now q_M_most u_M_images u_M_kept u_M_text u_M_size u_M_sign u_M_manyAbove u_M_manyBelow u_M_above u_M_below u_M_at u_M_begin u_M_kind u_M_value u_M_read u_M_acts u_M_act u_M_waits u_M_wait u_M_held u_M_place u_M_heap u_M_clocks u_M_counts u_M_talking u_M_hasA u_M_hasB u_M_talks u_M_big a_M_refused a_M_now a_M_most) H) (hD : va_D A (ws_X11_step cI cJ cZ cA q_M q_M_refused q_M_now q_M_most u_M_images u_M_kept u_M_text u_M_size u_M_sign u_M_manyAbove u_M_manyBelow u_M_above u_M_below u_M_at u_M_begin u_M_kind u_M_value u_M_read u_M_acts u_M_act u_M_waits u_M_wait u_M_held u_M_place u_M_heap u_M_clocks u_M_counts u_M_talking u_M_hasA u_M_hasB u_M_talks u_M_big a_M_refused a_M_now a_M_most)) (hS : va_S A s.heap H locs), k44 x3 x4 x5 a_M_refused a_M_most = some o → W p l e rm_X11_step s m args below meth c H locs 0 0 Q (F0 m 44 ls []))  (n : Nat) (x3 : Int32) (x4 : Int32) (x5 : Int32) (x6 : Int32) (x7 : Int32) (a_M_refused : Nat → Int32) (a_M_most : Nat → Int32) (H : Heap) (locs : List Loc) (ls : Array Slot) (hl : lv_has ls 9 [(0, .ref q_M), (1, .int x1), (2, .int x2), (3, .int x3), (4, .int x4), (5, .int x5), (6, .int x6), (7, .int x7)]) (hP : va_P D vwCl (ws_X11_step cI cJ cZ cA q_M q_M_refused q_M_now q_M_most u_M_images u_M_kept u_M_text u_M_size u_M_sign u_M_manyAbove u_M_manyBelow u_M_above u_M_below u_M_at u_M_begin u_M_kind u_M_value u_M_read u_M_acts u_M_act u_M_waits u_M_wait u_M_held u_M_place u_M_heap u_M_clocks u_M_counts u_M_talking u_M_hasA u_M_hasB u_M_talks u_M_big a_M_refused a_M_now a_M_most) H) (hD : va_D A (ws_X11_step cI cJ cZ cA q_M q_M_refused q_M_now q_M_most u_M_images u_M_kept u_M_text u_M_size u_M_sign u_M_manyAbove u_M_manyBelow u_M_above u_M_below u_M_at u_M_begin u_M_kind u_M_value u_M_read u_M_acts u_M_act u_M_waits u_M_wait u_M_held u_M_place u_M_heap u_M_clocks u_M_counts u_M_talking u_M_hasA u_M_hasB u_M_talks u_M_big a_M_refused a_M_now a_M_most)) (hS : va_S A s.heap H locs), g_X11_step_59 a_M_now x1 x2 k44 n x3 x4 x5 x6 x7 a_M_refused a_M_most = some o → W p l e rm_X11_step s m args below meth c H locs 0 0 Q (F0 m 59 ls []) := by
    intro k44 hk44 n
    induction n with
    | zero => intro x3 x4 x5 x6 x7 a_M_refused a_M_most H locs ls hl hP hD hS hg; exact nomatch (show (none : Option (Int32 × (Nat → Int32) × (Nat → Int32))) = some o from hg)
    | succ n ih =>
      intro x3 x4 x5 x6 x7 a_M_refused a_M_most H locs ls hl hP hD hS hg
      have hg : g_X11_step_59b a_M_now x1 x2 k44 (g_X11_step_59 a_M_now x1 x2 k44 n) x3 x4 x5 x6 x7 a_M_refused a_M_most = some o := hg
      refine lv_iload hx hb dX11_step_59 (lv_at hl 7 rfl) ?_
      refine lv_aload_n hx hb dX11_step_61 rfl (lv_at hl 0 rfl) ?_
      refine zget (C := RX11) (T := TX11) (N := 31) S hK hP 0 rfl rfl 0 (Nat.le_of_ble_eq_true rfl) zf_11 zw_149 rfl dX11_step_62 ?_
      refine lv_iconst (v := 0) hx hb dX11_step_65 (by decide) ?_
      refine ziald hx hb hK hP 2 0 rfl rfl (j := 0) (zin (by decide)) (by decide) dX11_step_66 ?_
      refine lv_icmp_gt (tgt := 134) hx hb dX11_step_67 (by decide) (fun h67 => ?_) (fun h67 => ?_)
      · have hg := zp hg h67
        refine lv_iload_n hx hb dX11_step_134 rfl (lv_at hl 3 rfl) ?_
        refine lv_iload hx hb dX11_step_135 (lv_at hl 4 rfl) ?_
        refine lv_iadd hx hb dX11_step_137 ?_
        refine lv_bipush (v := 99) hx hb dX11_step_138 (by decide) ?_
        refine lv_icmp_ge (tgt := 150) hx hb dX11_step_140 (by decide) (fun h140 => ?_) (fun h140 => ?_)
        · have hg := zp hg h140
          refine lv_bipush (v := 99) hx hb dX11_step_150 (by decide) ?_
          exact B152 k44 hk44 x4 x5 99 a_M_refused a_M_most _ _ _ (lv_sub hl [0, 1, 2, 4, 5] rfl) hP hD hS hg
        · have hg := zn hg h140
          refine lv_iload_n hx hb dX11_step_143 rfl (lv_at hl 3 rfl) ?_
          refine lv_iload hx hb dX11_step_144 (lv_at hl 4 rfl) ?_
          refine lv_iadd hx hb dX11_step_146 ?_
          refine lv_goto (tgt := 152) hx hb dX11_step_147 (by decide) ?_
          exact B152 k44 hk44 x4 x5 (x3 + x4) a_M_refused a_M_most _ _ _ (lv_sub hl [0, 1, 2, 4, 5] rfl) hP hD hS hg
      · have hg := zn hg h67
        refine lv_aload_n hx hb dX11_step_70 rfl (lv_at hl 0 rfl) ?_
        refine zget (C := RX11) (T := TX11) (N := 31) S hK hP 0 rfl rfl 26 (Nat.le_of_ble_eq_true rfl) zf_11 zw_165 rfl dX11_step_71 ?_
        refine lv_bipush (v := 100) hx hb dX11_step_74 (by decide) ?_
        refine lv_iload hx hb dX11_step_76 (lv_at hl 5 rfl) ?_
        refine lv_iconst (v := 1) hx hb dX11_step_78 (by decide) ?_
        refine lv_iadd hx hb dX11_step_79 ?_
        refine lv_imul hx hb dX11_step_80 ?_
        refine lv_iload_n hx hb dX11_step_81 rfl (lv_at hl 3 rfl) ?_
        refine lv_iload hx hb dX11_step_82 (lv_at hl 7 rfl) ?_
        refine lv_iadd hx hb dX11_step_84 ?_
        refine lv_bipush (v := 99) hx hb dX11_step_85 (by decide) ?_
        refine lv_icmp_ge (tgt := 97) hx hb dX11_step_87 (by decide) (fun h87 => ?_) (fun h87 => ?_)
        · have hg := zp hg h87
          refine lv_bipush (v := 99) hx hb dX11_step_97 (by decide) ?_
          exact B99 k44 hk44 (g_X11_step_59 a_M_now x1 x2 k44 n) ih x3 x4 x5 x6 x7 (100 * (x5 + 1)) 99 a_M_refused a_M_most _ _ _ hl hP hD hS hg
        · have hg := zn hg h87
          refine lv_iload_n hx hb dX11_step_90 rfl (lv_at hl 3 rfl) ?_
          refine lv_iload hx hb dX11_step_91 (lv_at hl 7 rfl) ?_
          refine lv_iadd hx hb dX11_step_93 ?_
          refine lv_goto (tgt := 99) hx hb dX11_step_94 (by decide) ?_
          exact B99 k44 hk44 (g_X11_step_59 a_M_now x1 x2 k44 n) ih x3 x4 x5 x6 x7 (100 * (x5 + 1)) (x3 + x7) a_M_refused a_M_most _ _ _ hl hP hD hS hg
  have B44 : ∀  (n : Nat) (x3 : Int32) (x4 : Int32) (x5 : Int32) (a_M_refused : Nat → Int32) (a_M_most : Nat → Int32) (H : Heap) (locs : List Loc) (ls : Array Slot) (hl : lv_has ls 9 [(0, .ref q_M), (1, .int x1), (2, .int x2), (3, .int x3), (4, .int x4), (5, .int x5)]) (hP : va_P D vwCl (ws_X11_step cI cJ cZ cA q_M q_M_refused q_M_now q_M_most u_M_images u_M_kept u_M_text u_M_size u_M_sign u_M_manyAbove u_M_manyBelow u_M_above u_M_below u_M_at u_M_begin u_M_kind u_M_value u_M_read u_M_acts u_M_act u_M_waits u_M_wait u_M_held u_M_place u_M_heap u_M_clocks u_M_counts u_M_talking u_M_hasA u_M_hasB u_M_talks u_M_big a_M_refused a_M_now a_M_most) H) (hD : va_D A (ws_X11_step cI cJ cZ cA q_M q_M_refused q_M_now q_M_most u_M_images u_M_kept u_M_text u_M_size u_M_sign u_M_manyAbove u_M_manyBelow u_M_above u_M_below u_M_at u_M_begin u_M_kind u_M_value u_M_read u_M_acts u_M_act u_M_waits u_M_wait u_M_held u_M_place u_M_heap u_M_clocks u_M_counts u_M_talking u_M_hasA u_M_hasB u_M_talks u_M_big a_M_refused a_M_now a_M_most)) (hS : va_S A s.heap H locs), g_X11_step_44 a_M_now x1 x2 n x3 x4 x5 a_M_refused a_M_most = some o → W p l e rm_X11_step s m args below meth c H locs 0 0 Q (F0 m 44 ls []) := by
    intro  n
    induction n with
    | zero => intro x3 x4 x5 a_M_refused a_M_most H locs ls hl hP hD hS hg; exact nomatch (show (none : Option (Int32 × (Nat → Int32) × (Nat → Int32))) = some o from hg)
    | succ n ih =>
      intro x3 x4 x5 a_M_refused a_M_most H locs ls hl hP hD hS hg
      have hg : g_X11_step_44b a_M_now x1 x2 (g_X11_step_44 a_M_now x1 x2 n) x3 x4 x5 a_M_refused a_M_most = some o := hg
      refine lv_iload hx hb dX11_step_44 (lv_at hl 5 rfl) ?_
      refine lv_iload_n hx hb dX11_step_46 rfl (lv_at hl 2 rfl) ?_
      refine lv_icmp_gt (tgt := 159) hx hb dX11_step_47 (by decide) (fun h47 => ?_) (fun h47 => ?_)
      · have hg := zp hg h47
        refine lv_iload hx hb dX11_step_159 (lv_at hl 4 rfl) ?_
        exact hret x4 a_M_refused a_M_most hg _ _ _ _ hP hS dX11_step_161
      · have hg := zn hg h47
        refine lv_iconst (v := 0) hx hb dX11_step_50 (by decide) ?_
        refine lv_istore (lv' := [(6, .int 0), (0, .ref q_M), (1, .int x1), (2, .int x2), (3, .int x3), (4, .int x4), (5, .int x5)]) hx hb dX11_step_51 hl (by decide) rfl (fun ls hl => ?_)
        refine lv_iconst (v := 0) hx hb dX11_step_53 (by decide) ?_
        refine lv_istore (lv' := [(4, .int 0), (6, .int 0), (0, .ref q_M), (1, .int x1), (2, .int x2), (3, .int x3), (5, .int x5)]) hx hb dX11_step_54 hl (by decide) rfl (fun ls hl => ?_)
        refine lv_iconst (v := 0) hx hb dX11_step_56 (by decide) ?_
        refine lv_istore (lv' := [(7, .int 0), (4, .int 0), (6, .int 0), (0, .ref q_M), (1, .int x1), (2, .int x2), (3, .int x3), (5, .int x5)]) hx hb dX11_step_57 hl (by decide) rfl (fun ls hl => ?_)
        exact B59 (g_X11_step_44 a_M_now x1 x2 n) ih zF x3 0 x5 0 0 a_M_refused a_M_most _ _ _ (lv_sub hl [3, 4, 5, 6, 1, 7, 2, 0] rfl) hP hD hS hg
  refine lv_iload_n hx hb dX11_step_0 rfl (lv_at hl 1 rfl) ?_
  refine lv_i2l hx hb dX11_step_1 rfl ?_
  refine lv_lconst (v := 0) hx hb dX11_step_2 (by decide) ?_
  refine lv_ldc2 (v := 9) hx hb S.2.2.2.1 (ht _ zw_816) dX11_step_3 ?_
  obtain ⟨v1, hc2, hg⟩ := zbd hg
  refine zcallS (rest := []) S (c_X11_in l D cI cJ cZ cA ga x1.toInt64 (0 : Int64) (9 : Int64) v1 hc2) (zgS zw_220 zw_221 zw_5 zw_222) rfl hd_X11_in ⟨rfl, rfl⟩ ⟨Nat.le_of_ble_eq_true rfl, Nat.le_of_ble_eq_true rfl⟩ rfl hl.1 rfl (Nat.le_of_ble_eq_true rfl) dX11_step_6 hP hD hS hA hK hG (isC := []) rfl rfl rfl (w2 := (ws_X11_step cI cJ cZ cA q_M q_M_refused q_M_now q_M_most u_M_images u_M_kept u_M_text u_M_size u_M_sign u_M_manyAbove u_M_manyBelow u_M_above u_M_below u_M_at u_M_begin u_M_kind u_M_value u_M_read u_M_acts u_M_act u_M_waits u_M_wait u_M_held u_M_place u_M_heap u_M_clocks u_M_counts u_M_talking u_M_hasA u_M_hasB u_M_talks u_M_big a_M_refused a_M_now a_M_most)) rfl (st1 := [.int v1]) rfl (fun H locs hP hD hS => ?_)
  refine lv_if_eq (tgt := 24) hx hb dX11_step_9 (by decide) (fun h9 => ?_) (fun h9 => ?_)
  · have hg := zp hg h9
    exact B24 a_M_refused a_M_most _ _ _ (lv_sub hl [0] rfl) hP hD hS hg
  · have hg := zn hg h9
    refine lv_iload_n hx hb dX11_step_12 rfl (lv_at hl 2 rfl) ?_
    refine lv_i2l hx hb dX11_step_13 rfl ?_
    refine lv_lconst (v := 0) hx hb dX11_step_14 (by decide) ?_
    refine lv_ldc2 (v := 98) hx hb S.2.2.2.1 (ht _ zw_837) dX11_step_15 ?_
    obtain ⟨v5, hc6, hg⟩ := zbd hg
    refine zcallS (rest := []) S (c_X11_in l D cI cJ cZ cA ga x2.toInt64 (0 : Int64) (98 : Int64) v5 hc6) (zgS zw_220 zw_221 zw_5 zw_222) rfl hd_X11_in ⟨rfl, rfl⟩ ⟨Nat.le_of_ble_eq_true rfl, Nat.le_of_ble_eq_true rfl⟩ rfl hl.1 rfl (Nat.le_of_ble_eq_true rfl) dX11_step_18 hP hD hS hA hK hG (isC := []) rfl rfl rfl (w2 := (ws_X11_step cI cJ cZ cA q_M q_M_refused q_M_now q_M_most u_M_images u_M_kept u_M_text u_M_size u_M_sign u_M_manyAbove u_M_manyBelow u_M_above u_M_below u_M_at u_M_begin u_M_kind u_M_value u_M_read u_M_acts u_M_act u_M_waits u_M_wait u_M_held u_M_place u_M_heap u_M_clocks u_M_counts u_M_talking u_M_hasA u_M_hasB u_M_talks u_M_big a_M_refused a_M_now a_M_most)) rfl (st1 := [.int v5]) rfl (fun H locs hP hD hS => ?_)
    refine lv_if_ne (tgt := 31) hx hb dX11_step_21 (by decide) (fun h21 => ?_) (fun h21 => ?_)
    · have hg := zn hg h21
      refine lv_aload_n hx hb dX11_step_31 rfl (lv_at hl 0 rfl) ?_
      refine lv_iload_n hx hb dX11_step_32 rfl (lv_at hl 1 rfl) ?_
      obtain ⟨v7, hc8, hg⟩ := zbd hg
      refine zcallV (rest := []) S (c_X11_plans l D cI cJ cZ cA ga q_M q_M_now q_M_most u_M_images u_M_kept u_M_text u_M_size u_M_sign u_M_manyAbove u_M_manyBelow u_M_above u_M_below (.ref q_M_refused) u_M_at u_M_begin u_M_kind u_M_value u_M_read u_M_acts u_M_act u_M_waits u_M_wait u_M_held u_M_place u_M_heap u_M_clocks u_M_counts u_M_talking u_M_hasA u_M_hasB u_M_talks u_M_big a_M_now a_M_most x1 v7 hc8) (zgV zw_817 zw_818 zw_819 zw_5 zw_820) rfl hd_X11_plans ⟨rfl, rfl⟩ ⟨Nat.le_of_ble_eq_true rfl, Nat.le_of_ble_eq_true rfl⟩ 0 11 rfl rfl rfl hl.1 rfl (Nat.le_of_ble_eq_true rfl) dX11_step_33 hP hD hS hA hK hG (isC := [0, 2, 3]) rfl rfl rfl (w2 := (ws_X11_step cI cJ cZ cA q_M q_M_refused q_M_now q_M_most u_M_images u_M_kept u_M_text u_M_size u_M_sign u_M_manyAbove u_M_manyBelow u_M_above u_M_below u_M_at u_M_begin u_M_kind u_M_value u_M_read u_M_acts u_M_act u_M_waits u_M_wait u_M_held u_M_place u_M_heap u_M_clocks u_M_counts u_M_talking u_M_hasA u_M_hasB u_M_talks u_M_big a_M_refused a_M_now v7)) rfl (st1 := []) rfl (fun H locs hP hD hS => ?_)
      refine lv_iconst (v := 0) hx hb dX11_step_36 (by decide) ?_
      refine lv_istore_n (lv' := [(3, .int 0), (0, .ref q_M), (1, .int x1), (2, .int x2)]) hx hb dX11_step_37 rfl hl (by decide) rfl (fun ls hl => ?_)
      refine lv_iconst (v := 0) hx hb dX11_step_38 (by decide) ?_
      refine lv_istore (lv' := [(4, .int 0), (3, .int 0), (0, .ref q_M), (1, .int x1), (2, .int x2)]) hx hb dX11_step_39 hl (by decide) rfl (fun ls hl => ?_)
      refine lv_iconst (v := 0) hx hb dX11_step_41 (by decide) ?_
      refine lv_istore (lv' := [(5, .int 0), (4, .int 0), (3, .int 0), (0, .ref q_M), (1, .int x1), (2, .int x2)]) hx hb dX11_step_42 hl (by decide) rfl (fun ls hl => ?_)
      exact B44 zF 0 0 0 a_M_refused v7 _ _ _ (lv_sub hl [3, 4, 5, 2, 1, 0] rfl) hP hD hS hg
    · have hg := zp hg h21
      exact B24 a_M_refused a_M_most _ _ _ (lv_sub hl [0] rfl) hP hD hS hg

/-! SpokenClockModel.minute(I)I -/
abbrev ws_X11_minute (cI cJ cZ cA : ClassId) (q_M q_M_now q_M_most q_M_refused : Nat) (u_M_images : Value) (u_M_kept : Value) (u_M_text : Value) (u_M_size : Value) (u_M_sign : Value) (u_M_manyAbove : Value) (u_M_manyBelow : Value) (u_M_above : Value) (u_M_below : Value) (u_M_at : Value) (u_M_begin : Value) (u_M_kind : Value) (u_M_value : Value) (u_M_read : Value) (u_M_acts : Value) (u_M_act : Value) (u_M_waits : Value) (u_M_wait : Value) (u_M_held : Value) (u_M_place : Value) (u_M_heap : Value) (u_M_clocks : Value) (u_M_counts : Value) (u_M_talking : Value) (u_M_hasA : Value) (u_M_hasB : Value) (u_M_talks : Value) (u_M_big : Value) (a_M_now : Nat → Int32) (a_M_most : Nat → Int32) (a_M_refused : Nat → Int32) : va_W := [(q_M, .inr (11, [.ref q_M_now, u_M_images, u_M_kept, u_M_text, u_M_size, u_M_sign, u_M_manyAbove, u_M_manyBelow, u_M_above, u_M_below, .ref q_M_refused, u_M_at, u_M_begin, u_M_kind, u_M_value, u_M_read, u_M_acts, u_M_act, u_M_waits, u_M_wait, u_M_held, u_M_place, u_M_heap, u_M_clocks, u_M_counts, u_M_talking, .ref q_M_most, u_M_hasA, u_M_hasB, u_M_talks, u_M_big])), (q_M_now, .inl (cI, 155, .inl a_M_now)), (q_M_most, .inl (cI, 10000, .inl a_M_most)), (q_M_refused, .inl (cI, 3, .inl a_M_refused))]
abbrev rm_X11_minute : Room := { frames := 1, cells := 0, slots := 0, locals := 26 }
def g_X11_minute (a_M_now : Nat → Int32) (x1 : Int32) (a_M_most : Nat → Int32) (a_M_refused : Nat → Int32) : Option (Int32 × (Nat → Int32) × (Nat → Int32)) :=
  (g_X11_in x1.toInt64 (0 : Int64) (9 : Int64)).bind fun v1 =>
  if v1 = 0 then (
    (g_X11_worse a_M_refused).bind fun v5 =>
    some (v5.1, a_M_most, v5.2)
  ) else (
    (g_X11_plans a_M_now x1 a_M_most).bind fun v3 =>
    some ((v3 1) - (v3 0), v3, a_M_refused)
  )
theorem hd_X11_minute : yX11_minute.cls = RX11 ∧ yX11_minute.cls ≠ "java/lang/invoke/MethodHandle" ∧ yX11_minute.cls ≠ "java/lang/invoke/VarHandle" ∧ (parseMethodDescriptor yX11_minute.desc).map (fun d => d.parameters.length) = some 1 := by decide +kernel
set_option maxHeartbeats 4000000 in
set_option maxRecDepth 100000 in
theorem c_X11_minute (l : Launch) (D : va_G) (cI cJ cZ cA : ClassId) (ga : Nat → Nat) (q_M q_M_now q_M_most q_M_refused : Nat) (u_M_images : Value) (u_M_kept : Value) (u_M_text : Value) (u_M_size : Value) (u_M_sign : Value) (u_M_manyAbove : Value) (u_M_manyBelow : Value) (u_M_above : Value) (u_M_below : Value) (u_M_at : Value) (u_M_begin : Value) (u_M_kind : Value) (u_M_value : Value) (u_M_read : Value) (u_M_acts : Value) (u_M_act : Value) (u_M_waits : Value) (u_M_wait : Value) (u_M_held : Value) (u_M_place : Value) (u_M_heap : Value) (u_M_clocks : Value) (u_M_counts : Value) (u_M_talking : Value) (u_M_hasA : Value) (u_M_hasB : Value) (u_M_talks : Value) (u_M_big : Value) (a_M_now : Nat → Int32) (a_M_most : Nat → Int32) (a_M_refused : Nat → Int32) (x1 : Int32) (o : Int32 × (Nat → Int32) × (Nat → Int32)) (hg : g_X11_minute a_M_now x1 a_M_most a_M_refused = some o) : zM l yX11_minute (Cond.code yX11_minute cX11_minute 2 (some .int) :: wsL_law) rm_X11_minute D (zTy cI cJ cZ cA) ga [.ref q_M, .int x1] (ws_X11_minute cI cJ cZ cA q_M q_M_now q_M_most q_M_refused u_M_images u_M_kept u_M_text u_M_size u_M_sign u_M_manyAbove u_M_manyBelow u_M_above u_M_below u_M_at u_M_begin u_M_kind u_M_value u_M_read u_M_acts u_M_act u_M_waits u_M_wait u_M_held u_M_place u_M_heap u_M_clocks u_M_counts u_M_talking u_M_hasA u_M_hasB u_M_talks u_M_big a_M_now a_M_most a_M_refused) (ws_X11_minute cI cJ cZ cA q_M q_M_now q_M_most q_M_refused u_M_images u_M_kept u_M_text u_M_size u_M_sign u_M_manyAbove u_M_manyBelow u_M_above u_M_below u_M_at u_M_begin u_M_kind u_M_value u_M_read u_M_acts u_M_act u_M_waits u_M_wait u_M_held u_M_place u_M_heap u_M_clocks u_M_counts u_M_talking u_M_hasA u_M_hasB u_M_talks u_M_big a_M_now o.2.1 o.2.2) (some (.int o.1)) := by
  refine zenterI (own := RX11) (by decide) rfl rfl (Nat.le_of_ble_eq_true rfl) ?_
  intro p e s m args below meth c A ls Q S hA hK hG hl hP hD hS hret0
  have hx := S.1
  have hb := S.2.1
  have ht : ∀ w, w ∈ wsL_law → w.before args s = true := fun w h => S.2.2.2.2 w (List.mem_cons_of_mem _ h)
  have hret : ∀ (r9 : Int32) (a_M_most : Nat → Int32) (a_M_refused : Nat → Int32), (some (r9, a_M_most, a_M_refused) : Option (Int32 × (Nat → Int32) × (Nat → Int32))) = some o → ∀ (H : Heap) (locs : List Loc) (pc : Nat) (ls : Array Slot), va_P D vwCl (ws_X11_minute cI cJ cZ cA q_M q_M_now q_M_most q_M_refused u_M_images u_M_kept u_M_text u_M_size u_M_sign u_M_manyAbove u_M_manyBelow u_M_above u_M_below u_M_at u_M_begin u_M_kind u_M_value u_M_read u_M_acts u_M_act u_M_waits u_M_wait u_M_held u_M_place u_M_heap u_M_clocks u_M_counts u_M_talking u_M_hasA u_M_hasB u_M_talks u_M_big a_M_now a_M_most a_M_refused) H → va_S A s.heap H locs → decode cX11_minute pc = .ok (.ireturn, 1) → W p l e rm_X11_minute s m args below meth c H locs 0 0 Q (F0 m pc ls [.int r9]) := by
    intro r9 a_M_most a_M_refused he; cases he; exact hret0
  have hl : lv_has ls 2 [(0, .ref q_M), (1, .int x1)] := hl
  refine lv_iload_n hx hb dX11_minute_0 rfl (lv_at hl 1 rfl) ?_
  refine lv_i2l hx hb dX11_minute_1 rfl ?_
  refine lv_lconst (v := 0) hx hb dX11_minute_2 (by decide) ?_
  refine lv_ldc2 (v := 9) hx hb S.2.2.2.1 (ht _ zw_816) dX11_minute_3 ?_
  obtain ⟨v1, hc2, hg⟩ := zbd hg
  refine zcallS (rest := []) S (c_X11_in l D cI cJ cZ cA ga x1.toInt64 (0 : Int64) (9 : Int64) v1 hc2) (zgS zw_220 zw_221 zw_5 zw_222) rfl hd_X11_in ⟨rfl, rfl⟩ ⟨Nat.le_of_ble_eq_true rfl, Nat.le_of_ble_eq_true rfl⟩ rfl hl.1 rfl (Nat.le_of_ble_eq_true rfl) dX11_minute_6 hP hD hS hA hK hG (isC := []) rfl rfl rfl (w2 := (ws_X11_minute cI cJ cZ cA q_M q_M_now q_M_most q_M_refused u_M_images u_M_kept u_M_text u_M_size u_M_sign u_M_manyAbove u_M_manyBelow u_M_above u_M_below u_M_at u_M_begin u_M_kind u_M_value u_M_read u_M_acts u_M_act u_M_waits u_M_wait u_M_held u_M_place u_M_heap u_M_clocks u_M_counts u_M_talking u_M_hasA u_M_hasB u_M_talks u_M_big a_M_now a_M_most a_M_refused)) rfl (st1 := [.int v1]) rfl (fun H locs hP hD hS => ?_)
  refine lv_if_ne (tgt := 17) hx hb dX11_minute_9 (by decide) (fun h9 => ?_) (fun h9 => ?_)
  · have hg := zn hg h9
    refine lv_aload_n hx hb dX11_minute_17 rfl (lv_at hl 0 rfl) ?_
    refine lv_iload_n hx hb dX11_minute_18 rfl (lv_at hl 1 rfl) ?_
    obtain ⟨v3, hc4, hg⟩ := zbd hg
    refine zcallV (rest := []) S (c_X11_plans l D cI cJ cZ cA ga q_M q_M_now q_M_most u_M_images u_M_kept u_M_text u_M_size u_M_sign u_M_manyAbove u_M_manyBelow u_M_above u_M_below (.ref q_M_refused) u_M_at u_M_begin u_M_kind u_M_value u_M_read u_M_acts u_M_act u_M_waits u_M_wait u_M_held u_M_place u_M_heap u_M_clocks u_M_counts u_M_talking u_M_hasA u_M_hasB u_M_talks u_M_big a_M_now a_M_most x1 v3 hc4) (zgV zw_817 zw_818 zw_819 zw_5 zw_820) rfl hd_X11_plans ⟨rfl, rfl⟩ ⟨Nat.le_of_ble_eq_true rfl, Nat.le_of_ble_eq_true rfl⟩ 0 11 rfl rfl rfl hl.1 rfl (Nat.le_of_ble_eq_true rfl) dX11_minute_19 hP hD hS hA hK hG (isC := [0, 1, 2]) rfl rfl rfl (w2 := (ws_X11_minute cI cJ cZ cA q_M q_M_now q_M_most q_M_refused u_M_images u_M_kept u_M_text u_M_size u_M_sign u_M_manyAbove u_M_manyBelow u_M_above u_M_below u_M_at u_M_begin u_M_kind u_M_value u_M_read u_M_acts u_M_act u_M_waits u_M_wait u_M_held u_M_place u_M_heap u_M_clocks u_M_counts u_M_talking u_M_hasA u_M_hasB u_M_talks u_M_big a_M_now v3 a_M_refused)) rfl (st1 := []) rfl (fun H locs hP hD hS => ?_)
    refine lv_aload_n hx hb dX11_minute_22 rfl (lv_at hl 0 rfl) ?_
    refine zget (C := RX11) (T := TX11) (N := 31) S hK hP 0 rfl rfl 26 (Nat.le_of_ble_eq_true rfl) zf_11 zw_165 rfl dX11_minute_23 ?_
    refine lv_iconst (v := 1) hx hb dX11_minute_26 (by decide) ?_
    refine ziald hx hb hK hP 2 0 rfl rfl (j := 1) (zin (by decide)) (by decide) dX11_minute_27 ?_
    refine lv_aload_n hx hb dX11_minute_28 rfl (lv_at hl 0 rfl) ?_
    refine zget (C := RX11) (T := TX11) (N := 31) S hK hP 0 rfl rfl 26 (Nat.le_of_ble_eq_true rfl) zf_11 zw_165 rfl dX11_minute_29 ?_
    refine lv_iconst (v := 0) hx hb dX11_minute_32 (by decide) ?_
    refine ziald hx hb hK hP 2 0 rfl rfl (j := 0) (zin (by decide)) (by decide) dX11_minute_33 ?_
    refine lv_isub hx hb dX11_minute_34 ?_
    exact hret ((v3 1) - (v3 0)) v3 a_M_refused hg _ _ _ _ hP hS dX11_minute_35
  · have hg := zp hg h9
    refine lv_aload_n hx hb dX11_minute_12 rfl (lv_at hl 0 rfl) ?_
    obtain ⟨v5, hc6, hg⟩ := zbd hg
    refine zcallV (rest := []) S (c_X11_worse l D cI cJ cZ cA ga q_M q_M_refused (.ref q_M_now) u_M_images u_M_kept u_M_text u_M_size u_M_sign u_M_manyAbove u_M_manyBelow u_M_above u_M_below u_M_at u_M_begin u_M_kind u_M_value u_M_read u_M_acts u_M_act u_M_waits u_M_wait u_M_held u_M_place u_M_heap u_M_clocks u_M_counts u_M_talking (.ref q_M_most) u_M_hasA u_M_hasB u_M_talks u_M_big a_M_refused v5 hc6) (zgV zw_769 zw_770 zw_771 zw_5 zw_772) rfl hd_X11_worse ⟨rfl, rfl⟩ ⟨Nat.le_of_ble_eq_true rfl, Nat.le_of_ble_eq_true rfl⟩ 0 11 rfl rfl rfl hl.1 rfl (Nat.le_of_ble_eq_true rfl) dX11_minute_13 hP hD hS hA hK hG (isC := [0, 3]) rfl rfl rfl (w2 := (ws_X11_minute cI cJ cZ cA q_M q_M_now q_M_most q_M_refused u_M_images u_M_kept u_M_text u_M_size u_M_sign u_M_manyAbove u_M_manyBelow u_M_above u_M_below u_M_at u_M_begin u_M_kind u_M_value u_M_read u_M_acts u_M_act u_M_waits u_M_wait u_M_held u_M_place u_M_heap u_M_clocks u_M_counts u_M_talking u_M_hasA u_M_hasB u_M_talks u_M_big a_M_now a_M_most v5.2)) rfl (st1 := [.int v5.1]) rfl (fun H locs hP hD hS => ?_)
    exact hret v5.1 a_M_most v5.2 hg _ _ _ _ hP hS dX11_minute_16

/-! SpokenClockModel.stake(IIIII)I -/
abbrev ws_X11_stake (cI cJ cZ cA : ClassId) (q_M q_M_refused q_M_now : Nat) (u_M_images : Value) (u_M_kept : Value) (u_M_text : Value) (u_M_size : Value) (u_M_sign : Value) (u_M_manyAbove : Value) (u_M_manyBelow : Value) (u_M_above : Value) (u_M_below : Value) (u_M_at : Value) (u_M_begin : Value) (u_M_kind : Value) (u_M_value : Value) (u_M_read : Value) (u_M_acts : Value) (u_M_act : Value) (u_M_waits : Value) (u_M_wait : Value) (u_M_held : Value) (u_M_place : Value) (u_M_heap : Value) (u_M_clocks : Value) (u_M_counts : Value) (u_M_talking : Value) (u_M_most : Value) (u_M_hasA : Value) (u_M_hasB : Value) (u_M_talks : Value) (u_M_big : Value) (a_M_refused : Nat → Int32) (a_M_now : Nat → Int32) : va_W := [(q_M, .inr (11, [.ref q_M_now, u_M_images, u_M_kept, u_M_text, u_M_size, u_M_sign, u_M_manyAbove, u_M_manyBelow, u_M_above, u_M_below, .ref q_M_refused, u_M_at, u_M_begin, u_M_kind, u_M_value, u_M_read, u_M_acts, u_M_act, u_M_waits, u_M_wait, u_M_held, u_M_place, u_M_heap, u_M_clocks, u_M_counts, u_M_talking, u_M_most, u_M_hasA, u_M_hasB, u_M_talks, u_M_big])), (q_M_refused, .inl (cI, 3, .inl a_M_refused)), (q_M_now, .inl (cI, 155, .inl a_M_now))]
abbrev rm_X11_stake : Room := { frames := 1, cells := 0, slots := 0, locals := 25 }
def g_X11_stake_66 (x1 : Int32) (x2 : Int32) (x3 : Int32) (x4 : Int32) (x5 : Int32) (a_M_refused : Nat → Int32) (a_M_now : Nat → Int32) : Option (Int32 × (Nat → Int32) × (Nat → Int32)) :=
  (g_X11_refuse (-2) a_M_refused).bind fun v3 =>
  some (v3.1, v3.2, a_M_now)
def g_X11_stake (x1 : Int32) (x2 : Int32) (x3 : Int32) (x4 : Int32) (x5 : Int32) (a_M_refused : Nat → Int32) (a_M_now : Nat → Int32) : Option (Int32 × (Nat → Int32) × (Nat → Int32)) :=
  (g_X11_in x1.toInt64 (0 : Int64) (20 : Int64)).bind fun v1 =>
  if v1 = 0 then (
    g_X11_stake_66 x1 x2 x3 x4 x5 a_M_refused a_M_now
  ) else (
    (g_X11_in x2.toInt64 (0 : Int64) (20 : Int64)).bind fun v5 =>
    if v5 = 0 then (
      g_X11_stake_66 x1 x2 x3 x4 x5 a_M_refused a_M_now
    ) else (
      (g_X11_in x3.toInt64 (-99 : Int64) (99 : Int64)).bind fun v7 =>
      if v7 = 0 then (
        g_X11_stake_66 x1 x2 x3 x4 x5 a_M_refused a_M_now
      ) else (
        (g_X11_in x4.toInt64 (-99 : Int64) (99 : Int64)).bind fun v9 =>
        if v9 = 0 then (
          g_X11_stake_66 x1 x2 x3 x4 x5 a_M_refused a_M_now
        ) else (
          (g_X11_in x5.toInt64 (0 : Int64) (99 : Int64)).bind fun v11 =>
          if v11 = 0 then (
            g_X11_stake_66 x1 x2 x3 x4 x5 a_M_refused a_M_now
          ) else (
            some (1, a_M_refused, upd (upd (upd (upd (upd a_M_now 8 x1) 9 x2) 10 x3) 11 x4) 12 x5)
          )
        )
      )
    )
  )
theorem hd_X11_stake : yX11_stake.cls = RX11 ∧ yX11_stake.cls ≠ "java/lang/invoke/MethodHandle" ∧ yX11_stake.cls ≠ "java/lang/invoke/VarHandle" ∧ (parseMethodDescriptor yX11_stake.desc).map (fun d => d.parameters.length) = some 5 := by decide +kernel
set_option maxHeartbeats 4000000 in
set_option maxRecDepth 100000 in
theorem c_X11_stake (l : Launch) (D : va_G) (cI cJ cZ cA : ClassId) (ga : Nat → Nat) (q_M q_M_refused q_M_now : Nat) (u_M_images : Value) (u_M_kept : Value) (u_M_text : Value) (u_M_size : Value) (u_M_sign : Value) (u_M_manyAbove : Value) (u_M_manyBelow : Value) (u_M_above : Value) (u_M_below : Value) (u_M_at : Value) (u_M_begin : Value) (u_M_kind : Value) (u_M_value : Value) (u_M_read : Value) (u_M_acts : Value) (u_M_act : Value) (u_M_waits : Value) (u_M_wait : Value) (u_M_held : Value) (u_M_place : Value) (u_M_heap : Value) (u_M_clocks : Value) (u_M_counts : Value) (u_M_talking : Value) (u_M_most : Value) (u_M_hasA : Value) (u_M_hasB : Value) (u_M_talks : Value) (u_M_big : Value) (a_M_refused : Nat → Int32) (a_M_now : Nat → Int32) (x1 : Int32) (x2 : Int32) (x3 : Int32) (x4 : Int32) (x5 : Int32) (o : Int32 × (Nat → Int32) × (Nat → Int32)) (hg : g_X11_stake x1 x2 x3 x4 x5 a_M_refused a_M_now = some o) : zM l yX11_stake (Cond.code yX11_stake cX11_stake 6 (some .int) :: wsL_law) rm_X11_stake D (zTy cI cJ cZ cA) ga [.ref q_M, .int x1, .int x2, .int x3, .int x4, .int x5] (ws_X11_stake cI cJ cZ cA q_M q_M_refused q_M_now u_M_images u_M_kept u_M_text u_M_size u_M_sign u_M_manyAbove u_M_manyBelow u_M_above u_M_below u_M_at u_M_begin u_M_kind u_M_value u_M_read u_M_acts u_M_act u_M_waits u_M_wait u_M_held u_M_place u_M_heap u_M_clocks u_M_counts u_M_talking u_M_most u_M_hasA u_M_hasB u_M_talks u_M_big a_M_refused a_M_now) (ws_X11_stake cI cJ cZ cA q_M q_M_refused q_M_now u_M_images u_M_kept u_M_text u_M_size u_M_sign u_M_manyAbove u_M_manyBelow u_M_above u_M_below u_M_at u_M_begin u_M_kind u_M_value u_M_read u_M_acts u_M_act u_M_waits u_M_wait u_M_held u_M_place u_M_heap u_M_clocks u_M_counts u_M_talking u_M_most u_M_hasA u_M_hasB u_M_talks u_M_big o.2.1 o.2.2) (some (.int o.1)) := by
  refine zenterI (own := RX11) (by decide) rfl rfl (Nat.le_of_ble_eq_true rfl) ?_
  intro p e s m args below meth c A ls Q S hA hK hG hl hP hD hS hret0
  have hx := S.1
  have hb := S.2.1
  have ht : ∀ w, w ∈ wsL_law → w.before args s = true := fun w h => S.2.2.2.2 w (List.mem_cons_of_mem _ h)
  have hret : ∀ (r9 : Int32) (a_M_refused : Nat → Int32) (a_M_now : Nat → Int32), (some (r9, a_M_refused, a_M_now) : Option (Int32 × (Nat → Int32) × (Nat → Int32))) = some o → ∀ (H : Heap) (locs : List Loc) (pc : Nat) (ls : Array Slot), va_P D vwCl (ws_X11_stake cI cJ cZ cA q_M q_M_refused q_M_now u_M_images u_M_kept u_M_text u_M_size u_M_sign u_M_manyAbove u_M_manyBelow u_M_above u_M_below u_M_at u_M_begin u_M_kind u_M_value u_M_read u_M_acts u_M_act u_M_waits u_M_wait u_M_held u_M_place u_M_heap u_M_clocks u_M_counts u_M_talking u_M_most u_M_hasA u_M_hasB u_M_talks u_M_big a_M_refused a_M_now) H → va_S A s.heap H locs → decode cX11_stake pc = .ok (.ireturn, 1) → W p l e rm_X11_stake s m args below meth c H locs 0 0 Q (F0 m pc ls [.int r9]) := by
    intro r9 a_M_refused a_M_now he; cases he; exact hret0
  have hl : lv_has ls 6 [(0, .ref q_M), (1, .int x1), (2, .int x2), (3, .int x3), (4, .int x4), (5, .int x5)] := hl
  have B66 : ∀ (a_M_refused : Nat → Int32) (a_M_now : Nat → Int32) (H : Heap) (locs : List Loc) (ls : Array Slot) (hl : lv_has ls 6 [(0, .ref q_M)]) (hP : va_P D vwCl (ws_X11_stake cI cJ cZ cA q_M q_M_refused q_M_now u_M_images u_M_kept u_M_text u_M_size u_M_sign u_M_manyAbove u_M_manyBelow u_M_above u_M_below u_M_at u_M_begin u_M_kind u_M_value u_M_read u_M_acts u_M_act u_M_waits u_M_wait u_M_held u_M_place u_M_heap u_M_clocks u_M_counts u_M_talking u_M_most u_M_hasA u_M_hasB u_M_talks u_M_big a_M_refused a_M_now) H) (hD : va_D A (ws_X11_stake cI cJ cZ cA q_M q_M_refused q_M_now u_M_images u_M_kept u_M_text u_M_size u_M_sign u_M_manyAbove u_M_manyBelow u_M_above u_M_below u_M_at u_M_begin u_M_kind u_M_value u_M_read u_M_acts u_M_act u_M_waits u_M_wait u_M_held u_M_place u_M_heap u_M_clocks u_M_counts u_M_talking u_M_most u_M_hasA u_M_hasB u_M_talks u_M_big a_M_refused a_M_now)) (hS : va_S A s.heap H locs), g_X11_stake_66 x1 x2 x3 x4 x5 a_M_refused a_M_now = some o → W p l e rm_X11_stake s m args below meth c H locs 0 0 Q (F0 m 66 ls []) := by
    intro  a_M_refused a_M_now H locs ls hl hP hD hS hg
    refine lv_aload_n hx hb dX11_stake_66 rfl (lv_at hl 0 rfl) ?_
    refine lv_bipush (v := (-2)) hx hb dX11_stake_67 (by decide) ?_
    obtain ⟨v3, hc4, hg⟩ := zbd hg
    refine zcallV (rest := []) S (c_X11_refuse l D cI cJ cZ cA ga q_M q_M_refused (.ref q_M_now) u_M_images u_M_kept u_M_text u_M_size u_M_sign u_M_manyAbove u_M_manyBelow u_M_above u_M_below u_M_at u_M_begin u_M_kind u_M_value u_M_read u_M_acts u_M_act u_M_waits u_M_wait u_M_held u_M_place u_M_heap u_M_clocks u_M_counts u_M_talking u_M_most u_M_hasA u_M_hasB u_M_talks u_M_big a_M_refused (-2) v3 hc4) (zgV zw_223 zw_224 zw_225 zw_5 zw_226) rfl hd_X11_refuse ⟨rfl, rfl⟩ ⟨Nat.le_of_ble_eq_true rfl, Nat.le_of_ble_eq_true rfl⟩ 0 11 rfl rfl rfl hl.1 rfl (Nat.le_of_ble_eq_true rfl) dX11_stake_69 hP hD hS hA hK hG (isC := [0, 1]) rfl rfl rfl (w2 := (ws_X11_stake cI cJ cZ cA q_M q_M_refused q_M_now u_M_images u_M_kept u_M_text u_M_size u_M_sign u_M_manyAbove u_M_manyBelow u_M_above u_M_below u_M_at u_M_begin u_M_kind u_M_value u_M_read u_M_acts u_M_act u_M_waits u_M_wait u_M_held u_M_place u_M_heap u_M_clocks u_M_counts u_M_talking u_M_most u_M_hasA u_M_hasB u_M_talks u_M_big v3.2 a_M_now)) rfl (st1 := [.int v3.1]) rfl (fun H locs hP hD hS => ?_)
    exact hret v3.1 v3.2 a_M_now hg _ _ _ _ hP hS dX11_stake_72
  refine lv_iload_n hx hb dX11_stake_0 rfl (lv_at hl 1 rfl) ?_
  refine lv_i2l hx hb dX11_stake_1 rfl ?_
  refine lv_lconst (v := 0) hx hb dX11_stake_2 (by decide) ?_
  refine lv_ldc2 (v := 20) hx hb S.2.2.2.1 (ht _ zw_855) dX11_stake_3 ?_
  obtain ⟨v1, hc2, hg⟩ := zbd hg
  refine zcallS (rest := []) S (c_X11_in l D cI cJ cZ cA ga x1.toInt64 (0 : Int64) (20 : Int64) v1 hc2) (zgS zw_220 zw_221 zw_5 zw_222) rfl hd_X11_in ⟨rfl, rfl⟩ ⟨Nat.le_of_ble_eq_true rfl, Nat.le_of_ble_eq_true rfl⟩ rfl hl.1 rfl (Nat.le_of_ble_eq_true rfl) dX11_stake_6 hP hD hS hA hK hG (isC := []) rfl rfl rfl (w2 := (ws_X11_stake cI cJ cZ cA q_M q_M_refused q_M_now u_M_images u_M_kept u_M_text u_M_size u_M_sign u_M_manyAbove u_M_manyBelow u_M_above u_M_below u_M_at u_M_begin u_M_kind u_M_value u_M_read u_M_acts u_M_act u_M_waits u_M_wait u_M_held u_M_place u_M_heap u_M_clocks u_M_counts u_M_talking u_M_most u_M_hasA u_M_hasB u_M_talks u_M_big a_M_refused a_M_now)) rfl (st1 := [.int v1]) rfl (fun H locs hP hD hS => ?_)
  refine lv_if_eq (tgt := 66) hx hb dX11_stake_9 (by decide) (fun h9 => ?_) (fun h9 => ?_)
  · have hg := zp hg h9
    exact B66 a_M_refused a_M_now _ _ _ (lv_sub hl [0] rfl) hP hD hS hg
  · have hg := zn hg h9
    refine lv_iload_n hx hb dX11_stake_12 rfl (lv_at hl 2 rfl) ?_
    refine lv_i2l hx hb dX11_stake_13 rfl ?_
    refine lv_lconst (v := 0) hx hb dX11_stake_14 (by decide) ?_
    refine lv_ldc2 (v := 20) hx hb S.2.2.2.1 (ht _ zw_855) dX11_stake_15 ?_
    obtain ⟨v5, hc6, hg⟩ := zbd hg
    refine zcallS (rest := []) S (c_X11_in l D cI cJ cZ cA ga x2.toInt64 (0 : Int64) (20 : Int64) v5 hc6) (zgS zw_220 zw_221 zw_5 zw_222) rfl hd_X11_in ⟨rfl, rfl⟩ ⟨Nat.le_of_ble_eq_true rfl, Nat.le_of_ble_eq_true rfl⟩ rfl hl.1 rfl (Nat.le_of_ble_eq_true rfl) dX11_stake_18 hP hD hS hA hK hG (isC := []) rfl rfl rfl (w2 := (ws_X11_stake cI cJ cZ cA q_M q_M_refused q_M_now u_M_images u_M_kept u_M_text u_M_size u_M_sign u_M_manyAbove u_M_manyBelow u_M_above u_M_below u_M_at u_M_begin u_M_kind u_M_value u_M_read u_M_acts u_M_act u_M_waits u_M_wait u_M_held u_M_place u_M_heap u_M_clocks u_M_counts u_M_talking u_M_most u_M_hasA u_M_hasB u_M_talks u_M_big a_M_refused a_M_now)) rfl (st1 := [.int v5]) rfl (fun H locs hP hD hS => ?_)
    refine lv_if_eq (tgt := 66) hx hb dX11_stake_21 (by decide) (fun h21 => ?_) (fun h21 => ?_)
    · have hg := zp hg h21
      exact B66 a_M_refused a_M_now _ _ _ (lv_sub hl [0] rfl) hP hD hS hg
    · have hg := zn hg h21
      refine lv_iload_n hx hb dX11_stake_24 rfl (lv_at hl 3 rfl) ?_
      refine lv_i2l hx hb dX11_stake_25 rfl ?_
      refine lv_ldc2 (v := (-99)) hx hb S.2.2.2.1 (ht _ zw_271) dX11_stake_26 ?_
      refine lv_ldc2 (v := 99) hx hb S.2.2.2.1 (ht _ zw_270) dX11_stake_29 ?_
      obtain ⟨v7, hc8, hg⟩ := zbd hg
      refine zcallS (rest := []) S (c_X11_in l D cI cJ cZ cA ga x3.toInt64 (-99 : Int64) (99 : Int64) v7 hc8) (zgS zw_220 zw_221 zw_5 zw_222) rfl hd_X11_in ⟨rfl, rfl⟩ ⟨Nat.le_of_ble_eq_true rfl, Nat.le_of_ble_eq_true rfl⟩ rfl hl.1 rfl (Nat.le_of_ble_eq_true rfl) dX11_stake_32 hP hD hS hA hK hG (isC := []) rfl rfl rfl (w2 := (ws_X11_stake cI cJ cZ cA q_M q_M_refused q_M_now u_M_images u_M_kept u_M_text u_M_size u_M_sign u_M_manyAbove u_M_manyBelow u_M_above u_M_below u_M_at u_M_begin u_M_kind u_M_value u_M_read u_M_acts u_M_act u_M_waits u_M_wait u_M_held u_M_place u_M_heap u_M_clocks u_M_counts u_M_talking u_M_most u_M_hasA u_M_hasB u_M_talks u_M_big a_M_refused a_M_now)) rfl (st1 := [.int v7]) rfl (fun H locs hP hD hS => ?_)
      refine lv_if_eq (tgt := 66) hx hb dX11_stake_35 (by decide) (fun h35 => ?_) (fun h35 => ?_)
      · have hg := zp hg h35
        exact B66 a_M_refused a_M_now _ _ _ (lv_sub hl [0] rfl) hP hD hS hg
      · have hg := zn hg h35
        refine lv_iload hx hb dX11_stake_38 (lv_at hl 4 rfl) ?_
        refine lv_i2l hx hb dX11_stake_40 rfl ?_
        refine lv_ldc2 (v := (-99)) hx hb S.2.2.2.1 (ht _ zw_271) dX11_stake_41 ?_
        refine lv_ldc2 (v := 99) hx hb S.2.2.2.1 (ht _ zw_270) dX11_stake_44 ?_
        obtain ⟨v9, hc10, hg⟩ := zbd hg
        refine zcallS (rest := []) S (c_X11_in l D cI cJ cZ cA ga x4.toInt64 (-99 : Int64) (99 : Int64) v9 hc10) (zgS zw_220 zw_221 zw_5 zw_222) rfl hd_X11_in ⟨rfl, rfl⟩ ⟨Nat.le_of_ble_eq_true rfl, Nat.le_of_ble_eq_true rfl⟩ rfl hl.1 rfl (Nat.le_of_ble_eq_true rfl) dX11_stake_47 hP hD hS hA hK hG (isC := []) rfl rfl rfl (w2 := (ws_X11_stake cI cJ cZ cA q_M q_M_refused q_M_now u_M_images u_M_kept u_M_text u_M_size u_M_sign u_M_manyAbove u_M_manyBelow u_M_above u_M_below u_M_at u_M_begin u_M_kind u_M_value u_M_read u_M_acts u_M_act u_M_waits u_M_wait u_M_held u_M_place u_M_heap u_M_clocks u_M_counts u_M_talking u_M_most u_M_hasA u_M_hasB u_M_talks u_M_big a_M_refused a_M_now)) rfl (st1 := [.int v9]) rfl (fun H locs hP hD hS => ?_)
        refine lv_if_eq (tgt := 66) hx hb dX11_stake_50 (by decide) (fun h50 => ?_) (fun h50 => ?_)
        · have hg := zp hg h50
          exact B66 a_M_refused a_M_now _ _ _ (lv_sub hl [0] rfl) hP hD hS hg
        · have hg := zn hg h50
          refine lv_iload hx hb dX11_stake_53 (lv_at hl 5 rfl) ?_
          refine lv_i2l hx hb dX11_stake_55 rfl ?_
          refine lv_lconst (v := 0) hx hb dX11_stake_56 (by decide) ?_
          refine lv_ldc2 (v := 99) hx hb S.2.2.2.1 (ht _ zw_270) dX11_stake_57 ?_
          obtain ⟨v11, hc12, hg⟩ := zbd hg
          refine zcallS (rest := []) S (c_X11_in l D cI cJ cZ cA ga x5.toInt64 (0 : Int64) (99 : Int64) v11 hc12) (zgS zw_220 zw_221 zw_5 zw_222) rfl hd_X11_in ⟨rfl, rfl⟩ ⟨Nat.le_of_ble_eq_true rfl, Nat.le_of_ble_eq_true rfl⟩ rfl hl.1 rfl (Nat.le_of_ble_eq_true rfl) dX11_stake_60 hP hD hS hA hK hG (isC := []) rfl rfl rfl (w2 := (ws_X11_stake cI cJ cZ cA q_M q_M_refused q_M_now u_M_images u_M_kept u_M_text u_M_size u_M_sign u_M_manyAbove u_M_manyBelow u_M_above u_M_below u_M_at u_M_begin u_M_kind u_M_value u_M_read u_M_acts u_M_act u_M_waits u_M_wait u_M_held u_M_place u_M_heap u_M_clocks u_M_counts u_M_talking u_M_most u_M_hasA u_M_hasB u_M_talks u_M_big a_M_refused a_M_now)) rfl (st1 := [.int v11]) rfl (fun H locs hP hD hS => ?_)
          refine lv_if_ne (tgt := 73) hx hb dX11_stake_63 (by decide) (fun h63 => ?_) (fun h63 => ?_)
          · have hg := zn hg h63
            refine lv_aload_n hx hb dX11_stake_73 rfl (lv_at hl 0 rfl) ?_
            refine zget (C := RX11) (T := TX11) (N := 31) S hK hP 0 rfl rfl 0 (Nat.le_of_ble_eq_true rfl) zf_11 zw_149 rfl dX11_stake_74 ?_
            refine lv_bipush (v := 8) hx hb dX11_stake_77 (by decide) ?_
            refine lv_iload_n hx hb dX11_stake_79 rfl (lv_at hl 1 rfl) ?_
            refine ziast hx hb hK hP hD hS 2 0 rfl rfl (j := 8) (zin (by decide)) (by decide) dX11_stake_80 (w2 := (ws_X11_stake cI cJ cZ cA q_M q_M_refused q_M_now u_M_images u_M_kept u_M_text u_M_size u_M_sign u_M_manyAbove u_M_manyBelow u_M_above u_M_below u_M_at u_M_begin u_M_kind u_M_value u_M_read u_M_acts u_M_act u_M_waits u_M_wait u_M_held u_M_place u_M_heap u_M_clocks u_M_counts u_M_talking u_M_most u_M_hasA u_M_hasB u_M_talks u_M_big a_M_refused (upd a_M_now 8 x1))) rfl (fun H locs hP hD hS => ?_)
            refine lv_aload_n hx hb dX11_stake_81 rfl (lv_at hl 0 rfl) ?_
            refine zget (C := RX11) (T := TX11) (N := 31) S hK hP 0 rfl rfl 0 (Nat.le_of_ble_eq_true rfl) zf_11 zw_149 rfl dX11_stake_82 ?_
            refine lv_bipush (v := 9) hx hb dX11_stake_85 (by decide) ?_
            refine lv_iload_n hx hb dX11_stake_87 rfl (lv_at hl 2 rfl) ?_
            refine ziast hx hb hK hP hD hS 2 0 rfl rfl (j := 9) (zin (by decide)) (by decide) dX11_stake_88 (w2 := (ws_X11_stake cI cJ cZ cA q_M q_M_refused q_M_now u_M_images u_M_kept u_M_text u_M_size u_M_sign u_M_manyAbove u_M_manyBelow u_M_above u_M_below u_M_at u_M_begin u_M_kind u_M_value u_M_read u_M_acts u_M_act u_M_waits u_M_wait u_M_held u_M_place u_M_heap u_M_clocks u_M_counts u_M_talking u_M_most u_M_hasA u_M_hasB u_M_talks u_M_big a_M_refused (upd (upd a_M_now 8 x1) 9 x2))) rfl (fun H locs hP hD hS => ?_)
            refine lv_aload_n hx hb dX11_stake_89 rfl (lv_at hl 0 rfl) ?_
            refine zget (C := RX11) (T := TX11) (N := 31) S hK hP 0 rfl rfl 0 (Nat.le_of_ble_eq_true rfl) zf_11 zw_149 rfl dX11_stake_90 ?_
            refine lv_bipush (v := 10) hx hb dX11_stake_93 (by decide) ?_
            refine lv_iload_n hx hb dX11_stake_95 rfl (lv_at hl 3 rfl) ?_
            refine ziast hx hb hK hP hD hS 2 0 rfl rfl (j := 10) (zin (by decide)) (by decide) dX11_stake_96 (w2 := (ws_X11_stake cI cJ cZ cA q_M q_M_refused q_M_now u_M_images u_M_kept u_M_text u_M_size u_M_sign u_M_manyAbove u_M_manyBelow u_M_above u_M_below u_M_at u_M_begin u_M_kind u_M_value u_M_read u_M_acts u_M_act u_M_waits u_M_wait u_M_held u_M_place u_M_heap u_M_clocks u_M_counts u_M_talking u_M_most u_M_hasA u_M_hasB u_M_talks u_M_big a_M_refused (upd (upd (upd a_M_now 8 x1) 9 x2) 10 x3))) rfl (fun H locs hP hD hS => ?_)
            refine lv_aload_n hx hb dX11_stake_97 rfl (lv_at hl 0 rfl) ?_
            refine zget (C := RX11) (T := TX11) (N := 31) S hK hP 0 rfl rfl 0 (Nat.le_of_ble_eq_true rfl) zf_11 zw_149 rfl dX11_stake_98 ?_
            refine lv_bipush (v := 11) hx hb dX11_stake_101 (by decide) ?_
            refine lv_iload hx hb dX11_stake_103 (lv_at hl 4 rfl) ?_
            refine ziast hx hb hK hP hD hS 2 0 rfl rfl (j := 11) (zin (by decide)) (by decide) dX11_stake_105 (w2 := (ws_X11_stake cI cJ cZ cA q_M q_M_refused q_M_now u_M_images u_M_kept u_M_text u_M_size u_M_sign u_M_manyAbove u_M_manyBelow u_M_above u_M_below u_M_at u_M_begin u_M_kind u_M_value u_M_read u_M_acts u_M_act u_M_waits u_M_wait u_M_held u_M_place u_M_heap u_M_clocks u_M_counts u_M_talking u_M_most u_M_hasA u_M_hasB u_M_talks u_M_big a_M_refused (upd (upd (upd (upd a_M_now 8 x1) 9 x2) 10 x3) 11 x4))) rfl (fun H locs hP hD hS => ?_)
            refine lv_aload_n hx hb dX11_stake_106 rfl (lv_at hl 0 rfl) ?_
            refine zget (C := RX11) (T := TX11) (N := 31) S hK hP 0 rfl rfl 0 (Nat.le_of_ble_eq_true rfl) zf_11 zw_149 rfl dX11_stake_107 ?_
            refine lv_bipush (v := 12) hx hb dX11_stake_110 (by decide) ?_
            refine lv_iload hx hb dX11_stake_112 (lv_at hl 5 rfl) ?_
            refine ziast hx hb hK hP hD hS 2 0 rfl rfl (j := 12) (zin (by decide)) (by decide) dX11_stake_114 (w2 := (ws_X11_stake cI cJ cZ cA q_M q_M_refused q_M_now u_M_images u_M_kept u_M_text u_M_size u_M_sign u_M_manyAbove u_M_manyBelow u_M_above u_M_below u_M_at u_M_begin u_M_kind u_M_value u_M_read u_M_acts u_M_act u_M_waits u_M_wait u_M_held u_M_place u_M_heap u_M_clocks u_M_counts u_M_talking u_M_most u_M_hasA u_M_hasB u_M_talks u_M_big a_M_refused (upd (upd (upd (upd (upd a_M_now 8 x1) 9 x2) 10 x3) 11 x4) 12 x5))) rfl (fun H locs hP hD hS => ?_)
            refine lv_iconst (v := 1) hx hb dX11_stake_115 (by decide) ?_
            exact hret 1 a_M_refused (upd (upd (upd (upd (upd a_M_now 8 x1) 9 x2) 10 x3) 11 x4) 12 x5) hg _ _ _ _ hP hS dX11_stake_116
          · have hg := zp hg h63
            exact B66 a_M_refused a_M_now _ _ _ (lv_sub hl [0] rfl) hP hD hS hg

