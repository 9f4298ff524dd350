/-! SpokenClockModel.next()V -/
abbrev ws_X11_next (cI cJ cZ cA : ClassId) (q_M q_M_text : Nat) (u_M_now : Value) (u_M_images : Value) (u_M_kept : Value) (u_M_sign : Value) (u_M_manyAbove : Value) (u_M_manyBelow : Value) (u_M_above : Value) (u_M_below : Value) (u_M_refused : Value) (u_M_read : Value) (u_M_acts : Value) (u_M_act : Value) (u_M_waits : Value) (u_M_wait : Value) (u_M_held : Value) (u_M_place : Value) (u_M_heap : Value) (u_M_clocks : Value) (u_M_counts : Value) (u_M_talking : Value) (u_M_most : Value) (u_M_hasA : Value) (u_M_hasB : Value) (u_M_talks : Value) (u_M_big : Value) (v_M_size : Int32) (v_M_at : Int32) (v_M_begin : Int32) (v_M_kind : Int32) (v_M_value : Int64) (a_M_text : Nat → Int32) : va_W := [(q_M, .inr (11, [u_M_now, u_M_images, u_M_kept, .ref q_M_text, .int v_M_size, u_M_sign, u_M_manyAbove, u_M_manyBelow, u_M_above, u_M_below, u_M_refused, .int v_M_at, .int v_M_begin, .int v_M_kind, .long v_M_value, u_M_read, u_M_acts, u_M_act, u_M_waits, u_M_wait, u_M_held, u_M_place, u_M_heap, u_M_clocks, u_M_counts, u_M_talking, u_M_most, u_M_hasA, u_M_hasB, u_M_talks, u_M_big])), (q_M_text, .inl (cI, 250, .inl a_M_text))]
abbrev rm_X11_next : Room := { frames := 2, cells := 0, slots := 0, locals := 45 }
def g_X11_next_332 (v_M_size : Int32) (a_M_text : Nat → Int32) (k255 : Int32 → Int32 → Int32 → Int64 → Option (Int32 × Int32 × Int32 × Int64)) (t1 : Int64) (v_M_at : Int32) (v_M_begin : Int32) (v_M_kind : Int32) (v_M_value : Int64) : Option (Int32 × Int32 × Int32 × Int64) :=
  k255 (v_M_at + 1) v_M_begin v_M_kind t1
def g_X11_next_255b (v_M_size : Int32) (a_M_text : Nat → Int32) (k255 : Int32 → Int32 → Int32 → Int64 → Option (Int32 × Int32 × Int32 × Int64)) (v_M_at : Int32) (v_M_begin : Int32) (v_M_kind : Int32) (v_M_value : Int64) : Option (Int32 × Int32 × Int32 × Int64) :=
  if v_M_kind = 2 then (
    if v_M_size ≤ v_M_at then (
      some (v_M_at, v_M_begin, v_M_kind, v_M_value)
    ) else (
      if v_M_at < 0 ∨ 250 ≤ v_M_at.toNatClampNeg then none else
      (g_X11_isFigure (a_M_text (v_M_at.toNatClampNeg))).bind fun v6 =>
      if v6 = 0 then (
        some (v_M_at, v_M_begin, v_M_kind, v_M_value)
      ) else (
        if 3 ≤ (v_M_at - v_M_begin) then (
          g_X11_next_332 v_M_size a_M_text k255 (100000 : Int64) v_M_at v_M_begin v_M_kind v_M_value
        ) else (
          if v_M_at < 0 ∨ 250 ≤ v_M_at.toNatClampNeg then none else
          g_X11_next_332 v_M_size a_M_text k255 ((((10 : Int64) * v_M_value) + ((a_M_text (v_M_at.toNatClampNeg)).toInt64)) - (48 : Int64)) v_M_at v_M_begin v_M_kind v_M_value
        )
      )
    )
  ) else (
    some (v_M_at, v_M_begin, v_M_kind, v_M_value)
  )
def g_X11_next_255 (v_M_size : Int32) (a_M_text : Nat → Int32) : Nat → Int32 → Int32 → Int32 → Int64 → Option (Int32 × Int32 × Int32 × Int64)
  | 0, _, _, _, _ => none
  | n + 1, v_M_at, v_M_begin, v_M_kind, v_M_value => g_X11_next_255b v_M_size a_M_text (g_X11_next_255 v_M_size a_M_text n) v_M_at v_M_begin v_M_kind v_M_value
def g_X11_next_239 (v_M_size : Int32) (a_M_text : Nat → Int32) (k161 : Int32 → Int32 → Int32 → Int64 → Option (Int32 × Int32 × Int32 × Int64)) (t1 : Int64) (v_M_at : Int32) (v_M_begin : Int32) (v_M_kind : Int32) (v_M_value : Int64) : Option (Int32 × Int32 × Int32 × Int64) :=
  k161 (v_M_at + 1) v_M_begin v_M_kind t1
def g_X11_next_161b (v_M_size : Int32) (a_M_text : Nat → Int32) (k161 : Int32 → Int32 → Int32 → Int64 → Option (Int32 × Int32 × Int32 × Int64)) (v_M_at : Int32) (v_M_begin : Int32) (v_M_kind : Int32) (v_M_value : Int64) : Option (Int32 × Int32 × Int32 × Int64) :=
  if v_M_kind = 1 then (
    if v_M_size ≤ v_M_at then (
      g_X11_next_255 v_M_size a_M_text zF v_M_at v_M_begin v_M_kind v_M_value
    ) else (
      if v_M_at < 0 ∨ 250 ≤ v_M_at.toNatClampNeg then none else
      (g_X11_isLetter (a_M_text (v_M_at.toNatClampNeg))).bind fun v10 =>
      if v10 = 0 then (
        g_X11_next_255 v_M_size a_M_text zF v_M_at v_M_begin v_M_kind v_M_value
      ) else (
        if 7 ≤ (v_M_at - v_M_begin) then (
          g_X11_next_239 v_M_size a_M_text k161 (-1 : Int64) v_M_at v_M_begin v_M_kind v_M_value
        ) else (
          if v_M_at < 0 ∨ 250 ≤ v_M_at.toNatClampNeg then none else
          g_X11_next_239 v_M_size a_M_text k161 ((((32 : Int64) * v_M_value) + ((a_M_text (v_M_at.toNatClampNeg)).toInt64)) - (96 : Int64)) v_M_at v_M_begin v_M_kind v_M_value
        )
      )
    )
  ) else (
    g_X11_next_255 v_M_size a_M_text zF v_M_at v_M_begin v_M_kind v_M_value
  )
def g_X11_next_161 (v_M_size : Int32) (a_M_text : Nat → Int32) : Nat → Int32 → Int32 → Int32 → Int64 → Option (Int32 × Int32 × Int32 × Int64)
  | 0, _, _, _, _ => none
  | n + 1, v_M_at, v_M_begin, v_M_kind, v_M_value => g_X11_next_161b v_M_size a_M_text (g_X11_next_161 v_M_size a_M_text n) v_M_at v_M_begin v_M_kind v_M_value
def g_X11_next_157 (v_M_size : Int32) (a_M_text : Nat → Int32) (t1 : Int32) (t2 : Int32) (v_M_at : Int32) (v_M_begin : Int32) (v_M_kind : Int32) (v_M_value : Int64) : Option (Int32 × Int32 × Int32 × Int64) :=
  g_X11_next_161 v_M_size a_M_text zF (t1 + t2) v_M_begin v_M_kind v_M_value
def g_X11_next_152 (v_M_size : Int32) (a_M_text : Nat → Int32) (t1 : Int32) (v_M_at : Int32) (v_M_begin : Int32) (v_M_kind : Int32) (v_M_value : Int64) : Option (Int32 × Int32 × Int32 × Int64) :=
  g_X11_next_157 v_M_size a_M_text t1 1 v_M_at v_M_begin v_M_kind v_M_value
def g_X11_next_128 (v_M_size : Int32) (a_M_text : Nat → Int32) (t1 : Int32) (v_M_at : Int32) (v_M_begin : Int32) (v_M_kind : Int32) (v_M_value : Int64) : Option (Int32 × Int32 × Int32 × Int64) :=
  if t1 = 3 then (
    g_X11_next_152 v_M_size a_M_text v_M_at v_M_at v_M_begin t1 v_M_value
  ) else (
    if t1 = 4 then (
      g_X11_next_152 v_M_size a_M_text v_M_at v_M_at v_M_begin t1 v_M_value
    ) else (
      g_X11_next_157 v_M_size a_M_text v_M_at 0 v_M_at v_M_begin t1 v_M_value
    )
  )
def g_X11_next_75 (v_M_size : Int32) (a_M_text : Nat → Int32) (t0 : Int32) (v_M_at : Int32) (v_M_begin : Int32) (v_M_kind : Int32) (v_M_value : Int64) : Option (Int32 × Int32 × Int32 × Int64) :=
  if 0 ≤ t0 then (
    (g_X11_isLetter t0).bind fun v1 =>
    if v1 = 0 then (
      (g_X11_isFigure t0).bind fun v3 =>
      if v3 = 0 then (
        if t0 = 45 then (
          g_X11_next_128 v_M_size a_M_text 3 v_M_at v_M_begin v_M_kind v_M_value
        ) else (
          if t0 = 59 then (
            g_X11_next_128 v_M_size a_M_text 4 v_M_at v_M_begin v_M_kind v_M_value
          ) else (
            g_X11_next_128 v_M_size a_M_text 5 v_M_at v_M_begin v_M_kind v_M_value
          )
        )
      ) else (
        g_X11_next_128 v_M_size a_M_text 2 v_M_at v_M_begin v_M_kind v_M_value
      )
    ) else (
      g_X11_next_128 v_M_size a_M_text 1 v_M_at v_M_begin v_M_kind v_M_value
    )
  ) else (
    g_X11_next_128 v_M_size a_M_text 0 v_M_at v_M_begin v_M_kind v_M_value
  )
def g_X11_next_38 (v_M_size : Int32) (a_M_text : Nat → Int32) (v_M_at : Int32) (v_M_begin : Int32) (v_M_kind : Int32) (v_M_value : Int64) : Option (Int32 × Int32 × Int32 × Int64) :=
  if v_M_size ≤ v_M_at then (
    g_X11_next_75 v_M_size a_M_text (-1) v_M_at v_M_at v_M_kind (0 : Int64)
  ) else (
    if v_M_at < 0 ∨ 250 ≤ v_M_at.toNatClampNeg then none else
    g_X11_next_75 v_M_size a_M_text (a_M_text (v_M_at.toNatClampNeg)) v_M_at v_M_at v_M_kind (0 : Int64)
  )
def g_X11_next_0b (v_M_size : Int32) (a_M_text : Nat → Int32) (k0 : Int32 → Int32 → Int32 → Int64 → Option (Int32 × Int32 × Int32 × Int64)) (v_M_at : Int32) (v_M_begin : Int32) (v_M_kind : Int32) (v_M_value : Int64) : Option (Int32 × Int32 × Int32 × Int64) :=
  if v_M_size ≤ v_M_at then (
    g_X11_next_38 v_M_size a_M_text v_M_at v_M_begin v_M_kind v_M_value
  ) else (
    if v_M_at < 0 ∨ 250 ≤ v_M_at.toNatClampNeg then none else
    if (a_M_text (v_M_at.toNatClampNeg)) = 32 then (
      k0 (v_M_at + 1) v_M_begin v_M_kind v_M_value
    ) else (
      g_X11_next_38 v_M_size a_M_text v_M_at v_M_begin v_M_kind v_M_value
    )
  )
def g_X11_next_0 (v_M_size : Int32) (a_M_text : Nat → Int32) : Nat → Int32 → Int32 → Int32 → Int64 → Option (Int32 × Int32 × Int32 × Int64)
  | 0, _, _, _, _ => none
  | n + 1, v_M_at, v_M_begin, v_M_kind, v_M_value => g_X11_next_0b v_M_size a_M_text (g_X11_next_0 v_M_size a_M_text n) v_M_at v_M_begin v_M_kind v_M_value
def g_X11_next (v_M_size : Int32) (a_M_text : Nat → Int32) (v_M_at : Int32) (v_M_begin : Int32) (v_M_kind : Int32) (v_M_value : Int64) : Option (Int32 × Int32 × Int32 × Int64) :=
  g_X11_next_0 v_M_size a_M_text zF v_M_at v_M_begin v_M_kind v_M_value
theorem hd_X11_next : yX11_next.cls = RX11 ∧ yX11_next.cls ≠ "java/lang/invoke/MethodHandle" ∧ yX11_next.cls ≠ "java/lang/invoke/VarHandle" ∧ (parseMethodDescriptor yX11_next.desc).map (fun d => d.parameters.length) = some 0 := by decide +kernel
set_option maxHeartbeats 4000000 in
set_option maxRecDepth 100000 in
theorem c_X11_next (l : Launch) (D : va_G) (cI cJ cZ cA : ClassId) (ga : Nat → Nat) (q_M q_M_text : Nat) (u_M_now : Value) (u_M_images : Value) (u_M_kept : Value) (u_M_sign : Value) (u_M_manyAbove : Value) (u_M_manyBelow : Value) (u_M_above : Value) (u_M_below : Value) (u_M_refused : Value) (u_M_read : Value) (u_M_acts : Value) (u_M_act : Value) (u_M_waits : Value) (u_M_wait : Value) (u_M_held : Value) (u_M_place : Value) (u_M_heap : Value) (u_M_clocks : Value) (u_M_counts : Value) (u_M_talking : Value) (u_M_most : Value) (u_M_hasA : Value) (u_M_hasB : Value) (u_M_talks : Value) (u_M_big : Value) (v_M_size : Int32) (v_M_at : Int32) (v_M_begin : Int32) (v_M_kind : Int32) (v_M_value : Int64) (a_M_text : Nat → Int32) (o : Int32 × Int32 × Int32 × Int64) (hg : g_X11_next v_M_size a_M_text v_M_at v_M_begin v_M_kind v_M_value = some o) : zM l yX11_next (Cond.code yX11_next cX11_next 2 none :: wsL_law) rm_X11_next D (zTy cI cJ cZ cA) ga [.ref q_M] (ws_X11_next cI cJ cZ cA q_M q_M_text u_M_now u_M_images u_M_kept u_M_sign u_M_manyAbove u_M_manyBelow u_M_above u_M_below u_M_refused u_M_read u_M_acts u_M_act u_M_waits u_M_wait u_M_held u_M_place u_M_heap u_M_clocks u_M_counts u_M_talking u_M_most u_M_hasA u_M_hasB u_M_talks u_M_big v_M_size v_M_at v_M_begin v_M_kind v_M_value a_M_text) (ws_X11_next cI cJ cZ cA q_M q_M_text u_M_now u_M_images u_M_kept u_M_sign u_M_manyAbove u_M_manyBelow u_M_above u_M_below u_M_refused u_M_read u_M_acts u_M_act u_M_waits u_M_wait u_M_held u_M_place u_M_heap u_M_clocks u_M_counts u_M_talking u_M_most u_M_hasA u_M_hasB u_M_talks u_M_big v_M_size o.1 o.2.1 o.2.2.1 o.2.2.2 a_M_text) none := by
  refine zenterV (own := RX11) (by decide) rfl rfl (Nat.le_of_ble_eq_true rfl) ?_
  intro p e s m args below meth c A ls Q S hA hK hG hl hP hD hS hret0
  have hx := S.1
  have hb := S.2.1
  have ht : ∀ w, w ∈ wsL_law → w.before args s = true := fun w h => S.2.2.2.2 w (List.mem_cons_of_mem _ h)
  have hret : ∀ (v_M_at : Int32) (v_M_begin : Int32) (v_M_kind : Int32) (v_M_value : Int64), (some (v_M_at, v_M_begin, v_M_kind, v_M_value) : Option (Int32 × Int32 × Int32 × Int64)) = some o → ∀ (H : Heap) (locs : List Loc) (pc : Nat) (ls : Array Slot), va_P D vwCl (ws_X11_next cI cJ cZ cA q_M q_M_text u_M_now u_M_images u_M_kept u_M_sign u_M_manyAbove u_M_manyBelow u_M_above u_M_below u_M_refused u_M_read u_M_acts u_M_act u_M_waits u_M_wait u_M_held u_M_place u_M_heap u_M_clocks u_M_counts u_M_talking u_M_most u_M_hasA u_M_hasB u_M_talks u_M_big v_M_size v_M_at v_M_begin v_M_kind v_M_value a_M_text) H → va_S A s.heap H locs → decode cX11_next pc = .ok (.return_, 1) → W p l e rm_X11_next s m args below meth c H locs 0 0 Q (F0 m pc ls []) := by
    intro v_M_at v_M_begin v_M_kind v_M_value he; cases he; exact hret0
  have hl : lv_has ls 2 [(0, .ref q_M)] := hl
  have B332 : ∀ (k255 : Int32 → Int32 → Int32 → Int64 → Option (Int32 × Int32 × Int32 × Int64)) (hk255 : ∀ (v_M_at : Int32) (v_M_begin : Int32) (v_M_kind : Int32) (v_M_value : Int64) (H : Heap) (locs : List Loc) (ls : Array Slot) (hl : lv_has ls 2 [(0, .ref q_M)]) (hP : va_P D vwCl (ws_X11_next cI cJ cZ cA q_M q_M_text u_M_now u_M_images u_M_kept u_M_sign u_M_manyAbove u_M_manyBelow u_M_above u_M_below u_M_refused u_M_read u_M_acts u_M_act u_M_waits u_M_wait u_M_held u_M_place u_M_heap u_M_clocks u_M_counts u_M_talking u_M_most u_M_hasA u_M_hasB u_M_talks u_M_big v_M_size v_M_at v_M_begin v_M_kind v_M_value a_M_text) H) (hD : va_D A (ws_X11_next cI cJ cZ cA q_M q_M_text u_M_now u_M_images u_M_kept u_M_sign u_M_manyAbove u_M_manyBelow u_M_above u_M_below u_M_refused u_M_read u_M_acts u_M_act u_M_waits u_M_wait u_M_held u_M_place u_M_heap u_M_clocks u_M_counts u_M_talking u_M_most u_M_hasA u_M_hasB u_M_talks u_M_big v_M_size v_M_at v_M_begin v_M_kind v_M_value a_M_text)) (hS : va_S A s.heap H locs), k255 v_M_at v_M_begin v_M_kind v_M_value = some o → W p l e rm_X11_next s m args below meth c H locs 0 0 Q (F0 m 255 ls [])) (t1 : Int64) (v_M_at : Int32) (v_M_begin : Int32) (v_M_kind : Int32) (v_M_value : Int64) (H : Heap) (locs : List Loc) (ls : Array Slot) (hl : lv_has ls 2 [(0, .ref q_M)]) (hP : va_P D vwCl (ws_X11_next cI cJ cZ cA q_M q_M_text u_M_now u_M_images u_M_kept u_M_sign u_M_manyAbove u_M_manyBelow u_M_above u_M_below u_M_refused u_M_read u_M_acts u_M_act u_M_waits u_M_wait u_M_held u_M_place u_M_heap u_M_clocks u_M_counts u_M_talking u_M_most u_M_hasA u_M_hasB u_M_talks u_M_big v_M_size v_M_at v_M_begin v_M_kind v_M_value a_M_text) H) (hD : va_D A (ws_X11_next cI cJ cZ cA q_M q_M_text u_M_now u_M_images u_M_kept u_M_sign u_M_manyAbove u_M_manyBelow u_M_above u_M_below u_M_refused u_M_read u_M_acts u_M_act u_M_waits u_M_wait u_M_held u_M_place u_M_heap u_M_clocks u_M_counts u_M_talking u_M_most u_M_hasA u_M_hasB u_M_talks u_M_big v_M_size v_M_at v_M_begin v_M_kind v_M_value a_M_text)) (hS : va_S A s.heap H locs), g_X11_next_332 v_M_size a_M_text k255 t1 v_M_at v_M_begin v_M_kind v_M_value = some o → W p l e rm_X11_next s m args below meth c H locs 0 0 Q (F0 m 332 ls [.long t1, .ref q_M]) := by
    intro k255 hk255 t1 v_M_at v_M_begin v_M_kind v_M_value H locs ls hl hP hD hS hg
    refine zputf (C := RX11) (T := TX11) (N := 31) (ty := .long) S hK hP hD hS 0 rfl rfl 14 (Nat.le_of_ble_eq_true rfl) zf_11 tyX11 tyX11_ok nmX11 zw_456 rfl (by decide +kernel) rfl rfl (Nat.le_of_ble_eq_true rfl) dX11_next_332 (w2 := (ws_X11_next cI cJ cZ cA q_M q_M_text u_M_now u_M_images u_M_kept u_M_sign u_M_manyAbove u_M_manyBelow u_M_above u_M_below u_M_refused u_M_read u_M_acts u_M_act u_M_waits u_M_wait u_M_held u_M_place u_M_heap u_M_clocks u_M_counts u_M_talking u_M_most u_M_hasA u_M_hasB u_M_talks u_M_big v_M_size v_M_at v_M_begin v_M_kind t1 a_M_text)) rfl (fun H locs hP hD hS => ?_)
    refine lv_aload_n hx hb dX11_next_335 rfl (lv_at hl 0 rfl) ?_
    refine lv_dup hx hb dX11_next_336 rfl ?_
    refine zget (C := RX11) (T := TX11) (N := 31) S hK hP 0 rfl rfl 11 (Nat.le_of_ble_eq_true rfl) zf_11 zw_454 rfl dX11_next_337 ?_
    refine lv_iconst (v := 1) hx hb dX11_next_340 (by decide) ?_
    refine lv_iadd hx hb dX11_next_341 ?_
    refine zputf (C := RX11) (T := TX11) (N := 31) (ty := .int) S hK hP hD hS 0 rfl rfl 11 (Nat.le_of_ble_eq_true rfl) zf_11 tyX11 tyX11_ok nmX11 zw_454 rfl (by decide +kernel) rfl rfl (Nat.le_of_ble_eq_true rfl) dX11_next_342 (w2 := (ws_X11_next cI cJ cZ cA q_M q_M_text u_M_now u_M_images u_M_kept u_M_sign u_M_manyAbove u_M_manyBelow u_M_above u_M_below u_M_refused u_M_read u_M_acts u_M_act u_M_waits u_M_wait u_M_held u_M_place u_M_heap u_M_clocks u_M_counts u_M_talking u_M_most u_M_hasA u_M_hasB u_M_talks u_M_big v_M_size (v_M_at + 1) v_M_begin v_M_kind t1 a_M_text)) rfl (fun H locs hP hD hS => ?_)
    refine lv_goto (tgt := 255) hx hb dX11_next_345 (by decide) ?_
    exact hk255 (v_M_at + 1) v_M_begin v_M_kind t1 _ _ _ hl hP hD hS hg
  have B255 : ∀  (n : Nat) (v_M_at : Int32) (v_M_begin : Int32) (v_M_kind : Int32) (v_M_value : Int64) (H : Heap) (locs : List Loc) (ls : Array Slot) (hl : lv_has ls 2 [(0, .ref q_M)]) (hP : va_P D vwCl (ws_X11_next cI cJ cZ cA q_M q_M_text u_M_now u_M_images u_M_kept u_M_sign u_M_manyAbove u_M_manyBelow u_M_above u_M_below u_M_refused u_M_read u_M_acts u_M_act u_M_waits u_M_wait u_M_held u_M_place u_M_heap u_M_clocks u_M_counts u_M_talking u_M_most u_M_hasA u_M_hasB u_M_talks u_M_big v_M_size v_M_at v_M_begin v_M_kind v_M_value a_M_text) H) (hD : va_D A (ws_X11_next cI cJ cZ cA q_M q_M_text u_M_now u_M_images u_M_kept u_M_sign u_M_manyAbove u_M_manyBelow u_M_above u_M_below u_M_refused u_M_read u_M_acts u_M_act u_M_waits u_M_wait u_M_held u_M_place u_M_heap u_M_clocks u_M_counts u_M_talking u_M_most u_M_hasA u_M_hasB u_M_talks u_M_big v_M_size v_M_at v_M_begin v_M_kind v_M_value a_M_text)) (hS : va_S A s.heap H locs), g_X11_next_255 v_M_size a_M_text n v_M_at v_M_begin v_M_kind v_M_value = some o → W p l e rm_X11_next s m args below meth c H locs 0 0 Q (F0 m 255 ls []) := by
    intro  n
    induction n with
    | zero => intro v_M_at v_M_begin v_M_kind v_M_value H locs ls hl hP hD hS hg; exact nomatch (show (none : Option (Int32 × Int32 × Int32 × Int64)) = some o from hg)
    | succ n ih =>
      intro v_M_at v_M_begin v_M_kind v_M_value H locs ls hl hP hD hS hg
      have hg : g_X11_next_255b v_M_size a_M_text (g_X11_next_255 v_M_size a_M_text n) v_M_at v_M_begin v_M_kind v_M_value = some o := hg
      refine lv_aload_n hx hb dX11_next_255 rfl (lv_at hl 0 rfl) ?_
      refine zget (C := RX11) (T := TX11) (N := 31) S hK hP 0 rfl rfl 13 (Nat.le_of_ble_eq_true rfl) zf_11 zw_455 rfl dX11_next_256 ?_
      refine lv_iconst (v := 2) hx hb dX11_next_259 (by decide) ?_
      refine lv_icmp_ne (tgt := 348) hx hb dX11_next_260 (by decide) (fun h260 => ?_) (fun h260 => ?_)
      · have hg := zn hg h260
        exact hret v_M_at v_M_begin v_M_kind v_M_value hg _ _ _ _ hP hS dX11_next_348
      · have hg := zp hg h260
        refine lv_aload_n hx hb dX11_next_263 rfl (lv_at hl 0 rfl) ?_
        refine zget (C := RX11) (T := TX11) (N := 31) S hK hP 0 rfl rfl 11 (Nat.le_of_ble_eq_true rfl) zf_11 zw_454 rfl dX11_next_264 ?_
        refine lv_aload_n hx hb dX11_next_267 rfl (lv_at hl 0 rfl) ?_
        refine zget (C := RX11) (T := TX11) (N := 31) S hK hP 0 rfl rfl 4 (Nat.le_of_ble_eq_true rfl) zf_11 zw_308 rfl dX11_next_268 ?_
        refine lv_icmp_ge (tgt := 348) hx hb dX11_next_271 (by decide) (fun h271 => ?_) (fun h271 => ?_)
        · have hg := zp hg h271
          exact hret v_M_at v_M_begin v_M_kind v_M_value hg _ _ _ _ hP hS dX11_next_348
        · have hg := zn hg h271
          refine lv_aload_n hx hb dX11_next_274 rfl (lv_at hl 0 rfl) ?_
          refine zget (C := RX11) (T := TX11) (N := 31) S hK hP 0 rfl rfl 3 (Nat.le_of_ble_eq_true rfl) zf_11 zw_152 rfl dX11_next_275 ?_
          refine lv_aload_n hx hb dX11_next_278 rfl (lv_at hl 0 rfl) ?_
          refine zget (C := RX11) (T := TX11) (N := 31) S hK hP 0 rfl rfl 11 (Nat.le_of_ble_eq_true rfl) zf_11 zw_454 rfl dX11_next_279 ?_
          obtain ⟨h5, hg⟩ := zck hg
          refine ziald hx hb hK hP 1 0 rfl rfl (j := (v_M_at.toNatClampNeg)) h5 rfl dX11_next_282 ?_
          obtain ⟨v6, hc7, hg⟩ := zbd hg
          refine zcallS (rest := []) S (c_X11_isFigure l D cI cJ cZ cA ga (a_M_text (v_M_at.toNatClampNeg)) v6 hc7) (zgS zw_479 zw_480 zw_5 zw_481) rfl hd_X11_isFigure ⟨rfl, rfl⟩ ⟨Nat.le_of_ble_eq_true rfl, Nat.le_of_ble_eq_true rfl⟩ rfl hl.1 rfl (Nat.le_of_ble_eq_true rfl) dX11_next_283 hP hD hS hA hK hG (isC := []) rfl rfl rfl (w2 := (ws_X11_next cI cJ cZ cA q_M q_M_text u_M_now u_M_images u_M_kept u_M_sign u_M_manyAbove u_M_manyBelow u_M_above u_M_below u_M_refused u_M_read u_M_acts u_M_act u_M_waits u_M_wait u_M_held u_M_place u_M_heap u_M_clocks u_M_counts u_M_talking u_M_most u_M_hasA u_M_hasB u_M_talks u_M_big v_M_size v_M_at v_M_begin v_M_kind v_M_value a_M_text)) rfl (st1 := [.int v6]) rfl (fun H locs hP hD hS => ?_)
          refine lv_if_eq (tgt := 348) hx hb dX11_next_286 (by decide) (fun h286 => ?_) (fun h286 => ?_)
          · have hg := zp hg h286
            exact hret v_M_at v_M_begin v_M_kind v_M_value hg _ _ _ _ hP hS dX11_next_348
          · have hg := zn hg h286
            refine lv_aload_n hx hb dX11_next_289 rfl (lv_at hl 0 rfl) ?_
            refine lv_aload_n hx hb dX11_next_290 rfl (lv_at hl 0 rfl) ?_
            refine zget (C := RX11) (T := TX11) (N := 31) S hK hP 0 rfl rfl 11 (Nat.le_of_ble_eq_true rfl) zf_11 zw_454 rfl dX11_next_291 ?_
            refine lv_aload_n hx hb dX11_next_294 rfl (lv_at hl 0 rfl) ?_
            refine zget (C := RX11) (T := TX11) (N := 31) S hK hP 0 rfl rfl 12 (Nat.le_of_ble_eq_true rfl) zf_11 zw_449 rfl dX11_next_295 ?_
            refine lv_isub hx hb dX11_next_298 ?_
            refine lv_iconst (v := 3) hx hb dX11_next_299 (by decide) ?_
            refine lv_icmp_ge (tgt := 329) hx hb dX11_next_300 (by decide) (fun h300 => ?_) (fun h300 => ?_)
            · have hg := zp hg h300
              refine lv_ldc2 (v := 100000) hx hb S.2.2.2.1 (ht _ zw_473) dX11_next_329 ?_
              exact B332 (g_X11_next_255 v_M_size a_M_text n) ih (100000 : Int64) v_M_at v_M_begin v_M_kind v_M_value _ _ _ hl hP hD hS hg
            · have hg := zn hg h300
              refine lv_ldc2 (v := 10) hx hb S.2.2.2.1 (ht _ zw_471) dX11_next_303 ?_
              refine lv_aload_n hx hb dX11_next_306 rfl (lv_at hl 0 rfl) ?_
              refine zget (C := RX11) (T := TX11) (N := 31) S hK hP 0 rfl rfl 14 (Nat.le_of_ble_eq_true rfl) zf_11 zw_456 rfl dX11_next_307 ?_
              refine lv_lmul hx hb dX11_next_310 ?_
              refine lv_aload_n hx hb dX11_next_311 rfl (lv_at hl 0 rfl) ?_
              refine zget (C := RX11) (T := TX11) (N := 31) S hK hP 0 rfl rfl 3 (Nat.le_of_ble_eq_true rfl) zf_11 zw_152 rfl dX11_next_312 ?_
              refine lv_aload_n hx hb dX11_next_315 rfl (lv_at hl 0 rfl) ?_
              refine zget (C := RX11) (T := TX11) (N := 31) S hK hP 0 rfl rfl 11 (Nat.le_of_ble_eq_true rfl) zf_11 zw_454 rfl dX11_next_316 ?_
              obtain ⟨h8, hg⟩ := zck hg
              refine ziald hx hb hK hP 1 0 rfl rfl (j := (v_M_at.toNatClampNeg)) h8 rfl dX11_next_319 ?_
              refine lv_i2l hx hb dX11_next_320 rfl ?_
              refine lv_ladd hx hb dX11_next_321 ?_
              refine lv_ldc2 (v := 48) hx hb S.2.2.2.1 (ht _ zw_472) dX11_next_322 ?_
              refine lv_lsub hx hb dX11_next_325 ?_
              refine lv_goto (tgt := 332) hx hb dX11_next_326 (by decide) ?_
              exact B332 (g_X11_next_255 v_M_size a_M_text n) ih ((((10 : Int64) * v_M_value) + ((a_M_text (v_M_at.toNatClampNeg)).toInt64)) - (48 : Int64)) v_M_at v_M_begin v_M_kind v_M_value _ _ _ hl hP hD hS hg
  have B239 : ∀ (k161 : Int32 → Int32 → Int32 → Int64 → Option (Int32 × Int32 × Int32 × Int64)) (hk161 : ∀ (v_M_at : Int32) (v_M_begin : Int32) (v_M_kind : Int32) (v_M_value : Int64) (H : Heap) (locs : List Loc) (ls : Array Slot) (hl : lv_has ls 2 [(0, .ref q_M)]) (hP : va_P D vwCl (ws_X11_next cI cJ cZ cA q_M q_M_text u_M_now u_M_images u_M_kept u_M_sign u_M_manyAbove u_M_manyBelow u_M_above u_M_below u_M_refused u_M_read u_M_acts u_M_act u_M_waits u_M_wait u_M_held u_M_place u_M_heap u_M_clocks u_M_counts u_M_talking u_M_most u_M_hasA u_M_hasB u_M_talks u_M_big v_M_size v_M_at v_M_begin v_M_kind v_M_value a_M_text) H) (hD : va_D A (ws_X11_next cI cJ cZ cA q_M q_M_text u_M_now u_M_images u_M_kept u_M_sign u_M_manyAbove u_M_manyBelow u_M_above u_M_below u_M_refused u_M_read u_M_acts u_M_act u_M_waits u_M_wait u_M_held u_M_place u_M_heap u_M_clocks u_M_counts u_M_talking u_M_most u_M_hasA u_M_hasB u_M_talks u_M_big v_M_size v_M_at v_M_begin v_M_kind v_M_value a_M_text)) (hS : va_S A s.heap H locs), k161 v_M_at v_M_begin v_M_kind v_M_value = some o → W p l e rm_X11_next s m args below meth c H locs 0 0 Q (F0 m 161 ls [])) (t1 : Int64) (v_M_at : Int32) (v_M_begin : Int32) (v_M_kind : Int32) (v_M_value : Int64) (H : Heap) (locs : List Loc) (ls : Array Slot) (hl : lv_has ls 2 [(0, .ref q_M)]) (hP : va_P D vwCl (ws_X11_next cI cJ cZ cA q_M q_M_text u_M_now u_M_images u_M_kept u_M_sign u_M_manyAbove u_M_manyBelow u_M_above u_M_below u_M_refused u_M_read u_M_acts u_M_act u_M_waits u_M_wait u_M_held u_M_place u_M_heap u_M_clocks u_M_counts u_M_talking u_M_most u_M_hasA u_M_hasB u_M_talks u_M_big v_M_size v_M_at v_M_begin v_M_kind v_M_value a_M_text) H) (hD : va_D A (ws_X11_next cI cJ cZ cA q_M q_M_text u_M_now u_M_images u_M_kept u_M_sign u_M_manyAbove u_M_manyBelow u_M_above u_M_below u_M_refused u_M_read u_M_acts u_M_act u_M_waits u_M_wait u_M_held u_M_place u_M_heap u_M_clocks u_M_counts u_M_talking u_M_most u_M_hasA u_M_hasB u_M_talks u_M_big v_M_size v_M_at v_M_begin v_M_kind v_M_value a_M_text)) (hS : va_S A s.heap H locs), g_X11_next_239 v_M_size a_M_text k161 t1 v_M_at v_M_begin v_M_kind v_M_value = some o → W p l e rm_X11_next s m args below meth c H locs 0 0 Q (F0 m 239 ls [.long t1, .ref q_M]) := by
    intro k161 hk161 t1 v_M_at v_M_begin v_M_kind v_M_value H locs ls hl hP hD hS hg
    refine zputf (C := RX11) (T := TX11) (N := 31) (ty := .long) S hK hP hD hS 0 rfl rfl 14 (Nat.le_of_ble_eq_true rfl) zf_11 tyX11 tyX11_ok nmX11 zw_456 rfl (by decide +kernel) rfl rfl (Nat.le_of_ble_eq_true rfl) dX11_next_239 (w2 := (ws_X11_next cI cJ cZ cA q_M q_M_text u_M_now u_M_images u_M_kept u_M_sign u_M_manyAbove u_M_manyBelow u_M_above u_M_below u_M_refused u_M_read u_M_acts u_M_act u_M_waits u_M_wait u_M_held u_M_place u_M_heap u_M_clocks u_M_counts u_M_talking u_M_most u_M_hasA u_M_hasB u_M_talks u_M_big v_M_size v_M_at v_M_begin v_M_kind t1 a_M_text)) rfl (fun H locs hP hD hS => ?_)
    refine lv_aload_n hx hb dX11_next_242 rfl (lv_at hl 0 rfl) ?_
    refine lv_dup hx hb dX11_next_243 rfl ?_
    refine zget (C := RX11) (T := TX11) (N := 31) S hK hP 0 rfl rfl 11 (Nat.le_of_ble_eq_true rfl) zf_11 zw_454 rfl dX11_next_244 ?_
    refine lv_iconst (v := 1) hx hb dX11_next_247 (by decide) ?_
    refine lv_iadd hx hb dX11_next_248 ?_
    refine zputf (C := RX11) (T := TX11) (N := 31) (ty := .int) S hK hP hD hS 0 rfl rfl 11 (Nat.le_of_ble_eq_true rfl) zf_11 tyX11 tyX11_ok nmX11 zw_454 rfl (by decide +kernel) rfl rfl (Nat.le_of_ble_eq_true rfl) dX11_next_249 (w2 := (ws_X11_next cI cJ cZ cA q_M q_M_text u_M_now u_M_images u_M_kept u_M_sign u_M_manyAbove u_M_manyBelow u_M_above u_M_below u_M_refused u_M_read u_M_acts u_M_act u_M_waits u_M_wait u_M_held u_M_place u_M_heap u_M_clocks u_M_counts u_M_talking u_M_most u_M_hasA u_M_hasB u_M_talks u_M_big v_M_size (v_M_at + 1) v_M_begin v_M_kind t1 a_M_text)) rfl (fun H locs hP hD hS => ?_)
    refine lv_goto (tgt := 161) hx hb dX11_next_252 (by decide) ?_
    exact hk161 (v_M_at + 1) v_M_begin v_M_kind t1 _ _ _ hl hP hD hS hg
  have B161 : ∀  (n : Nat) (v_M_at : Int32) (v_M_begin : Int32) (v_M_kind : Int32) (v_M_value : Int64) (H : Heap) (locs : List Loc) (ls : Array Slot) (hl : lv_has ls 2 [(0, .ref q_M)]) (hP : va_P D vwCl (ws_X11_next cI cJ cZ cA q_M q_M_text u_M_now u_M_images u_M_kept u_M_sign u_M_manyAbove u_M_manyBelow u_M_above u_M_below u_M_refused u_M_read u_M_acts u_M_act u_M_waits u_M_wait u_M_held u_M_place u_M_heap u_M_clocks u_M_counts u_M_talking u_M_most u_M_hasA u_M_hasB u_M_talks u_M_big v_M_size v_M_at v_M_begin v_M_kind v_M_value a_M_text) H) (hD : va_D A (ws_X11_next cI cJ cZ cA q_M q_M_text u_M_now u_M_images u_M_kept u_M_sign u_M_manyAbove u_M_manyBelow u_M_above u_M_below u_M_refused u_M_read u_M_acts u_M_act u_M_waits u_M_wait u_M_held u_M_place u_M_heap u_M_clocks u_M_counts u_M_talking u_M_most u_M_hasA u_M_hasB u_M_talks u_M_big v_M_size v_M_at v_M_begin v_M_kind v_M_value a_M_text)) (hS : va_S A s.heap H locs), g_X11_next_161 v_M_size a_M_text n v_M_at v_M_begin v_M_kind v_M_value = some o → W p l e rm_X11_next s m args below meth c H locs 0 0 Q (F0 m 161 ls []) := by
    intro  n
    induction n with
    | zero => intro v_M_at v_M_begin v_M_kind v_M_value H locs ls hl hP hD hS hg; exact nomatch (show (none : Option (Int32 × Int32 × Int32 × Int64)) = some o from hg)
    | succ n ih =>
      intro v_M_at v_M_begin v_M_kind v_M_value H locs ls hl hP hD hS hg
      have hg : g_X11_next_161b v_M_size a_M_text (g_X11_next_161 v_M_size a_M_text n) v_M_at v_M_begin v_M_kind v_M_value = some o := hg
      refine lv_aload_n hx hb dX11_next_161 rfl (lv_at hl 0 rfl) ?_
      refine zget (C := RX11) (T := TX11) (N := 31) S hK hP 0 rfl rfl 13 (Nat.le_of_ble_eq_true rfl) zf_11 zw_455 rfl dX11_next_162 ?_
      refine lv_iconst (v := 1) hx hb dX11_next_165 (by decide) ?_
      refine lv_icmp_ne (tgt := 255) hx hb dX11_next_166 (by decide) (fun h166 => ?_) (fun h166 => ?_)
      · have hg := zn hg h166
        exact B255 zF v_M_at v_M_begin v_M_kind v_M_value _ _ _ hl hP hD hS hg
      · have hg := zp hg h166
        refine lv_aload_n hx hb dX11_next_169 rfl (lv_at hl 0 rfl) ?_
        refine zget (C := RX11) (T := TX11) (N := 31) S hK hP 0 rfl rfl 11 (Nat.le_of_ble_eq_true rfl) zf_11 zw_454 rfl dX11_next_170 ?_
        refine lv_aload_n hx hb dX11_next_173 rfl (lv_at hl 0 rfl) ?_
        refine zget (C := RX11) (T := TX11) (N := 31) S hK hP 0 rfl rfl 4 (Nat.le_of_ble_eq_true rfl) zf_11 zw_308 rfl dX11_next_174 ?_
        refine lv_icmp_ge (tgt := 255) hx hb dX11_next_177 (by decide) (fun h177 => ?_) (fun h177 => ?_)
        · have hg := zp hg h177
          exact B255 zF v_M_at v_M_begin v_M_kind v_M_value _ _ _ hl hP hD hS hg
        · have hg := zn hg h177
          refine lv_aload_n hx hb dX11_next_180 rfl (lv_at hl 0 rfl) ?_
          refine zget (C := RX11) (T := TX11) (N := 31) S hK hP 0 rfl rfl 3 (Nat.le_of_ble_eq_true rfl) zf_11 zw_152 rfl dX11_next_181 ?_
          refine lv_aload_n hx hb dX11_next_184 rfl (lv_at hl 0 rfl) ?_
          refine zget (C := RX11) (T := TX11) (N := 31) S hK hP 0 rfl rfl 11 (Nat.le_of_ble_eq_true rfl) zf_11 zw_454 rfl dX11_next_185 ?_
          obtain ⟨h9, hg⟩ := zck hg
          refine ziald hx hb hK hP 1 0 rfl rfl (j := (v_M_at.toNatClampNeg)) h9 rfl dX11_next_188 ?_
          obtain ⟨v10, hc11, hg⟩ := zbd hg
          refine zcallS (rest := []) S (c_X11_isLetter l D cI cJ cZ cA ga (a_M_text (v_M_at.toNatClampNeg)) v10 hc11) (zgS zw_474 zw_475 zw_5 zw_476) rfl hd_X11_isLetter ⟨rfl, rfl⟩ ⟨Nat.le_of_ble_eq_true rfl, Nat.le_of_ble_eq_true rfl⟩ rfl hl.1 rfl (Nat.le_of_ble_eq_true rfl) dX11_next_189 hP hD hS hA hK hG (isC := []) rfl rfl rfl (w2 := (ws_X11_next cI cJ cZ cA q_M q_M_text u_M_now u_M_images u_M_kept u_M_sign u_M_manyAbove u_M_manyBelow u_M_above u_M_below u_M_refused u_M_read u_M_acts u_M_act u_M_waits u_M_wait u_M_held u_M_place u_M_heap u_M_clocks u_M_counts u_M_talking u_M_most u_M_hasA u_M_hasB u_M_talks u_M_big v_M_size v_M_at v_M_begin v_M_kind v_M_value a_M_text)) rfl (st1 := [.int v10]) rfl (fun H locs hP hD hS => ?_)
          refine lv_if_eq (tgt := 255) hx hb dX11_next_192 (by decide) (fun h192 => ?_) (fun h192 => ?_)
          · have hg := zp hg h192
            exact B255 zF v_M_at v_M_begin v_M_kind v_M_value _ _ _ hl hP hD hS hg
          · have hg := zn hg h192
            refine lv_aload_n hx hb dX11_next_195 rfl (lv_at hl 0 rfl) ?_
            refine lv_aload_n hx hb dX11_next_196 rfl (lv_at hl 0 rfl) ?_
            refine zget (C := RX11) (T := TX11) (N := 31) S hK hP 0 rfl rfl 11 (Nat.le_of_ble_eq_true rfl) zf_11 zw_454 rfl dX11_next_197 ?_
            refine lv_aload_n hx hb dX11_next_200 rfl (lv_at hl 0 rfl) ?_
            refine zget (C := RX11) (T := TX11) (N := 31) S hK hP 0 rfl rfl 12 (Nat.le_of_ble_eq_true rfl) zf_11 zw_449 rfl dX11_next_201 ?_
            refine lv_isub hx hb dX11_next_204 ?_
            refine lv_bipush (v := 7) hx hb dX11_next_205 (by decide) ?_
            refine lv_icmp_ge (tgt := 236) hx hb dX11_next_207 (by decide) (fun h207 => ?_) (fun h207 => ?_)
            · have hg := zp hg h207
              refine lv_ldc2 (v := (-1)) hx hb S.2.2.2.1 (ht _ zw_470) dX11_next_236 ?_
              exact B239 (g_X11_next_161 v_M_size a_M_text n) ih (-1 : Int64) v_M_at v_M_begin v_M_kind v_M_value _ _ _ hl hP hD hS hg
            · have hg := zn hg h207
              refine lv_ldc2 (v := 32) hx hb S.2.2.2.1 (ht _ zw_468) dX11_next_210 ?_
              refine lv_aload_n hx hb dX11_next_213 rfl (lv_at hl 0 rfl) ?_
              refine zget (C := RX11) (T := TX11) (N := 31) S hK hP 0 rfl rfl 14 (Nat.le_of_ble_eq_true rfl) zf_11 zw_456 rfl dX11_next_214 ?_
              refine lv_lmul hx hb dX11_next_217 ?_
              refine lv_aload_n hx hb dX11_next_218 rfl (lv_at hl 0 rfl) ?_
              refine zget (C := RX11) (T := TX11) (N := 31) S hK hP 0 rfl rfl 3 (Nat.le_of_ble_eq_true rfl) zf_11 zw_152 rfl dX11_next_219 ?_
              refine lv_aload_n hx hb dX11_next_222 rfl (lv_at hl 0 rfl) ?_
              refine zget (C := RX11) (T := TX11) (N := 31) S hK hP 0 rfl rfl 11 (Nat.le_of_ble_eq_true rfl) zf_11 zw_454 rfl dX11_next_223 ?_
              obtain ⟨h12, hg⟩ := zck hg
              refine ziald hx hb hK hP 1 0 rfl rfl (j := (v_M_at.toNatClampNeg)) h12 rfl dX11_next_226 ?_
              refine lv_i2l hx hb dX11_next_227 rfl ?_
              refine lv_ladd hx hb dX11_next_228 ?_
              refine lv_ldc2 (v := 96) hx hb S.2.2.2.1 (ht _ zw_469) dX11_next_229 ?_
              refine lv_lsub hx hb dX11_next_232 ?_
              refine lv_goto (tgt := 239) hx hb dX11_next_233 (by decide) ?_
              exact B239 (g_X11_next_161 v_M_size a_M_text n) ih ((((32 : Int64) * v_M_value) + ((a_M_text (v_M_at.toNatClampNeg)).toInt64)) - (96 : Int64)) v_M_at v_M_begin v_M_kind v_M_value _ _ _ hl hP hD hS hg
  have B157 : ∀ (t1 : Int32) (t2 : Int32) (v_M_at : Int32) (v_M_begin : Int32) (v_M_kind : Int32) (v_M_value : Int64) (H : Heap) (locs : List Loc) (ls : Array Slot) (hl : lv_has ls 2 [(0, .ref q_M)]) (hP : va_P D vwCl (ws_X11_next cI cJ cZ cA q_M q_M_text u_M_now u_M_images u_M_kept u_M_sign u_M_manyAbove u_M_manyBelow u_M_above u_M_below u_M_refused u_M_read u_M_acts u_M_act u_M_waits u_M_wait u_M_held u_M_place u_M_heap u_M_clocks u_M_counts u_M_talking u_M_most u_M_hasA u_M_hasB u_M_talks u_M_big v_M_size v_M_at v_M_begin v_M_kind v_M_value a_M_text) H) (hD : va_D A (ws_X11_next cI cJ cZ cA q_M q_M_text u_M_now u_M_images u_M_kept u_M_sign u_M_manyAbove u_M_manyBelow u_M_above u_M_below u_M_refused u_M_read u_M_acts u_M_act u_M_waits u_M_wait u_M_held u_M_place u_M_heap u_M_clocks u_M_counts u_M_talking u_M_most u_M_hasA u_M_hasB u_M_talks u_M_big v_M_size v_M_at v_M_begin v_M_kind v_M_value a_M_text)) (hS : va_S A s.heap H locs), g_X11_next_157 v_M_size a_M_text t1 t2 v_M_at v_M_begin v_M_kind v_M_value = some o → W p l e rm_X11_next s m args below meth c H locs 0 0 Q (F0 m 157 ls [.int t2, .int t1, .ref q_M]) := by
    intro  t1 t2 v_M_at v_M_begin v_M_kind v_M_value H locs ls hl hP hD hS hg
    refine lv_iadd hx hb dX11_next_157 ?_
    refine zputf (C := RX11) (T := TX11) (N := 31) (ty := .int) S hK hP hD hS 0 rfl rfl 11 (Nat.le_of_ble_eq_true rfl) zf_11 tyX11 tyX11_ok nmX11 zw_454 rfl (by decide +kernel) rfl rfl (Nat.le_of_ble_eq_true rfl) dX11_next_158 (w2 := (ws_X11_next cI cJ cZ cA q_M q_M_text u_M_now u_M_images u_M_kept u_M_sign u_M_manyAbove u_M_manyBelow u_M_above u_M_below u_M_refused u_M_read u_M_acts u_M_act u_M_waits u_M_wait u_M_held u_M_place u_M_heap u_M_clocks u_M_counts u_M_talking u_M_most u_M_hasA u_M_hasB u_M_talks u_M_big v_M_size (t1 + t2) v_M_begin v_M_kind v_M_value a_M_text)) rfl (fun H locs hP hD hS => ?_)
    exact B161 zF (t1 + t2) v_M_begin v_M_kind v_M_value _ _ _ hl hP hD hS hg
  have B152 : ∀ (t1 : Int32) (v_M_at : Int32) (v_M_begin : Int32) (v_M_kind : Int32) (v_M_value : Int64) (H : Heap) (locs : List Loc) (ls : Array Slot) (hl : lv_has ls 2 [(0, .ref q_M)]) (hP : va_P D vwCl (ws_X11_next cI cJ cZ cA q_M q_M_text u_M_now u_M_images u_M_kept u_M_sign u_M_manyAbove u_M_manyBelow u_M_above u_M_below u_M_refused u_M_read u_M_acts u_M_act u_M_waits u_M_wait u_M_held u_M_place u_M_heap u_M_clocks u_M_counts u_M_talking u_M_most u_M_hasA u_M_hasB u_M_talks u_M_big v_M_size v_M_at v_M_begin v_M_kind v_M_value a_M_text) H) (hD : va_D A (ws_X11_next cI cJ cZ cA q_M q_M_text u_M_now u_M_images u_M_kept u_M_sign u_M_manyAbove u_M_manyBelow u_M_above u_M_below u_M_refused u_M_read u_M_acts u_M_act u_M_waits u_M_wait u_M_held u_M_place u_M_heap u_M_clocks u_M_counts u_M_talking u_M_most u_M_hasA u_M_hasB u_M_talks u_M_big v_M_size v_M_at v_M_begin v_M_kind v_M_value a_M_text)) (hS : va_S A s.heap H locs), g_X11_next_152 v_M_size a_M_text t1 v_M_at v_M_begin v_M_kind v_M_value = some o → W p l e rm_X11_next s m args below meth c H locs 0 0 Q (F0 m 152 ls [.int t1, .ref q_M]) := by
    intro  t1 v_M_at v_M_begin v_M_kind v_M_value H locs ls hl hP hD hS hg
    refine lv_iconst (v := 1) hx hb dX11_next_152 (by decide) ?_
    refine lv_goto (tgt := 157) hx hb dX11_next_153 (by decide) ?_
    exact B157 t1 1 v_M_at v_M_begin v_M_kind v_M_value _ _ _ hl hP hD hS hg
  have B128 : ∀ (t1 : Int32) (v_M_at : Int32) (v_M_begin : Int32) (v_M_kind : Int32) (v_M_value : Int64) (H : Heap) (locs : List Loc) (ls : Array Slot) (hl : lv_has ls 2 [(0, .ref q_M)]) (hP : va_P D vwCl (ws_X11_next cI cJ cZ cA q_M q_M_text u_M_now u_M_images u_M_kept u_M_sign u_M_manyAbove u_M_manyBelow u_M_above u_M_below u_M_refused u_M_read u_M_acts u_M_act u_M_waits u_M_wait u_M_held u_M_place u_M_heap u_M_clocks u_M_counts u_M_talking u_M_most u_M_hasA u_M_hasB u_M_talks u_M_big v_M_size v_M_at v_M_begin v_M_kind v_M_value a_M_text) H) (hD : va_D A (ws_X11_next cI cJ cZ cA q_M q_M_text u_M_now u_M_images u_M_kept u_M_sign u_M_manyAbove u_M_manyBelow u_M_above u_M_below u_M_refused u_M_read u_M_acts u_M_act u_M_waits u_M_wait u_M_held u_M_place u_M_heap u_M_clocks u_M_counts u_M_talking u_M_most u_M_hasA u_M_hasB u_M_talks u_M_big v_M_size v_M_at v_M_begin v_M_kind v_M_value a_M_text)) (hS : va_S A s.heap H locs), g_X11_next_128 v_M_size a_M_text t1 v_M_at v_M_begin v_M_kind v_M_value = some o → W p l e rm_X11_next s m args below meth c H locs 0 0 Q (F0 m 128 ls [.int t1, .ref q_M]) := by
    intro  t1 v_M_at v_M_begin v_M_kind v_M_value H locs ls hl hP hD hS hg
    refine zputf (C := RX11) (T := TX11) (N := 31) (ty := .int) S hK hP hD hS 0 rfl rfl 13 (Nat.le_of_ble_eq_true rfl) zf_11 tyX11 tyX11_ok nmX11 zw_455 rfl (by decide +kernel) rfl rfl (Nat.le_of_ble_eq_true rfl) dX11_next_128 (w2 := (ws_X11_next cI cJ cZ cA q_M q_M_text u_M_now u_M_images u_M_kept u_M_sign u_M_manyAbove u_M_manyBelow u_M_above u_M_below u_M_refused u_M_read u_M_acts u_M_act u_M_waits u_M_wait u_M_held u_M_place u_M_heap u_M_clocks u_M_counts u_M_talking u_M_most u_M_hasA u_M_hasB u_M_talks u_M_big v_M_size v_M_at v_M_begin t1 v_M_value a_M_text)) rfl (fun H locs hP hD hS => ?_)
    refine lv_aload_n hx hb dX11_next_131 rfl (lv_at hl 0 rfl) ?_
    refine lv_dup hx hb dX11_next_132 rfl ?_
    refine zget (C := RX11) (T := TX11) (N := 31) S hK hP 0 rfl rfl 11 (Nat.le_of_ble_eq_true rfl) zf_11 zw_454 rfl dX11_next_133 ?_
    refine lv_aload_n hx hb dX11_next_136 rfl (lv_at hl 0 rfl) ?_
    refine zget (C := RX11) (T := TX11) (N := 31) S hK hP 0 rfl rfl 13 (Nat.le_of_ble_eq_true rfl) zf_11 zw_455 rfl dX11_next_137 ?_
    refine lv_iconst (v := 3) hx hb dX11_next_140 (by decide) ?_
    refine lv_icmp_eq (tgt := 152) hx hb dX11_next_141 (by decide) (fun h141 => ?_) (fun h141 => ?_)
    · have hg := zp hg h141
      exact B152 v_M_at v_M_at v_M_begin t1 v_M_value _ _ _ hl hP hD hS hg
    · have hg := zn hg h141
      refine lv_aload_n hx hb dX11_next_144 rfl (lv_at hl 0 rfl) ?_
      refine zget (C := RX11) (T := TX11) (N := 31) S hK hP 0 rfl rfl 13 (Nat.le_of_ble_eq_true rfl) zf_11 zw_455 rfl dX11_next_145 ?_
      refine lv_iconst (v := 4) hx hb dX11_next_148 (by decide) ?_
      refine lv_icmp_ne (tgt := 156) hx hb dX11_next_149 (by decide) (fun h149 => ?_) (fun h149 => ?_)
      · have hg := zn hg h149
        refine lv_iconst (v := 0) hx hb dX11_next_156 (by decide) ?_
        exact B157 v_M_at 0 v_M_at v_M_begin t1 v_M_value _ _ _ hl hP hD hS hg
      · have hg := zp hg h149
        exact B152 v_M_at v_M_at v_M_begin t1 v_M_value _ _ _ hl hP hD hS hg
  have B75 : ∀ (t0 : Int32) (v_M_at : Int32) (v_M_begin : Int32) (v_M_kind : Int32) (v_M_value : Int64) (H : Heap) (locs : List Loc) (ls : Array Slot) (hl : lv_has ls 2 [(0, .ref q_M)]) (hP : va_P D vwCl (ws_X11_next cI cJ cZ cA q_M q_M_text u_M_now u_M_images u_M_kept u_M_sign u_M_manyAbove u_M_manyBelow u_M_above u_M_below u_M_refused u_M_read u_M_acts u_M_act u_M_waits u_M_wait u_M_held u_M_place u_M_heap u_M_clocks u_M_counts u_M_talking u_M_most u_M_hasA u_M_hasB u_M_talks u_M_big v_M_size v_M_at v_M_begin v_M_kind v_M_value a_M_text) H) (hD : va_D A (ws_X11_next cI cJ cZ cA q_M q_M_text u_M_now u_M_images u_M_kept u_M_sign u_M_manyAbove u_M_manyBelow u_M_above u_M_below u_M_refused u_M_read u_M_acts u_M_act u_M_waits u_M_wait u_M_held u_M_place u_M_heap u_M_clocks u_M_counts u_M_talking u_M_most u_M_hasA u_M_hasB u_M_talks u_M_big v_M_size v_M_at v_M_begin v_M_kind v_M_value a_M_text)) (hS : va_S A s.heap H locs), g_X11_next_75 v_M_size a_M_text t0 v_M_at v_M_begin v_M_kind v_M_value = some o → W p l e rm_X11_next s m args below meth c H locs 0 0 Q (F0 m 75 ls [.int t0]) := by
    intro  t0 v_M_at v_M_begin v_M_kind v_M_value H locs ls hl hP hD hS hg
    refine lv_istore_n (lv' := [(1, .int t0), (0, .ref q_M)]) hx hb dX11_next_75 rfl hl (by decide) rfl (fun ls hl => ?_)
    refine lv_aload_n hx hb dX11_next_76 rfl (lv_at hl 1 rfl) ?_
    refine lv_iload_n hx hb dX11_next_77 rfl (lv_at hl 0 rfl) ?_
    refine lv_if_ge (tgt := 85) hx hb dX11_next_78 (by decide) (fun h78 => ?_) (fun h78 => ?_)
    · have hg := zp hg h78
      refine lv_iload_n hx hb dX11_next_85 rfl (lv_at hl 0 rfl) ?_
      obtain ⟨v1, hc2, hg⟩ := zbd hg
      refine zcallS (rest := [.ref q_M]) S (c_X11_isLetter l D cI cJ cZ cA ga t0 v1 hc2) (zgS zw_474 zw_475 zw_5 zw_476) rfl hd_X11_isLetter ⟨rfl, rfl⟩ ⟨Nat.le_of_ble_eq_true rfl, Nat.le_of_ble_eq_true rfl⟩ rfl hl.1 rfl (Nat.le_of_ble_eq_true rfl) dX11_next_86 hP hD hS hA hK hG (isC := []) rfl rfl rfl (w2 := (ws_X11_next cI cJ cZ cA q_M q_M_text u_M_now u_M_images u_M_kept u_M_sign u_M_manyAbove u_M_manyBelow u_M_above u_M_below u_M_refused u_M_read u_M_acts u_M_act u_M_waits u_M_wait u_M_held u_M_place u_M_heap u_M_clocks u_M_counts u_M_talking u_M_most u_M_hasA u_M_hasB u_M_talks u_M_big v_M_size v_M_at v_M_begin v_M_kind v_M_value a_M_text)) rfl (st1 := [.int v1, .ref q_M]) rfl (fun H locs hP hD hS => ?_)
      refine lv_if_eq (tgt := 96) hx hb dX11_next_89 (by decide) (fun h89 => ?_) (fun h89 => ?_)
      · have hg := zp hg h89
        refine lv_iload_n hx hb dX11_next_96 rfl (lv_at hl 0 rfl) ?_
        obtain ⟨v3, hc4, hg⟩ := zbd hg
        refine zcallS (rest := [.ref q_M]) S (c_X11_isFigure l D cI cJ cZ cA ga t0 v3 hc4) (zgS zw_479 zw_480 zw_5 zw_481) rfl hd_X11_isFigure ⟨rfl, rfl⟩ ⟨Nat.le_of_ble_eq_true rfl, Nat.le_of_ble_eq_true rfl⟩ rfl hl.1 rfl (Nat.le_of_ble_eq_true rfl) dX11_next_97 hP hD hS hA hK hG (isC := []) rfl rfl rfl (w2 := (ws_X11_next cI cJ cZ cA q_M q_M_text u_M_now u_M_images u_M_kept u_M_sign u_M_manyAbove u_M_manyBelow u_M_above u_M_below u_M_refused u_M_read u_M_acts u_M_act u_M_waits u_M_wait u_M_held u_M_place u_M_heap u_M_clocks u_M_counts u_M_talking u_M_most u_M_hasA u_M_hasB u_M_talks u_M_big v_M_size v_M_at v_M_begin v_M_kind v_M_value a_M_text)) rfl (st1 := [.int v3, .ref q_M]) rfl (fun H locs hP hD hS => ?_)
        refine lv_if_eq (tgt := 107) hx hb dX11_next_100 (by decide) (fun h100 => ?_) (fun h100 => ?_)
        · have hg := zp hg h100
          refine lv_iload_n hx hb dX11_next_107 rfl (lv_at hl 0 rfl) ?_
          refine lv_bipush (v := 45) hx hb dX11_next_108 (by decide) ?_
          refine lv_icmp_ne (tgt := 117) hx hb dX11_next_110 (by decide) (fun h110 => ?_) (fun h110 => ?_)
          · have hg := zn hg h110
            refine lv_iload_n hx hb dX11_next_117 rfl (lv_at hl 0 rfl) ?_
            refine lv_bipush (v := 59) hx hb dX11_next_118 (by decide) ?_
            refine lv_icmp_ne (tgt := 127) hx hb dX11_next_120 (by decide) (fun h120 => ?_) (fun h120 => ?_)
            · have hg := zn hg h120
              refine lv_iconst (v := 5) hx hb dX11_next_127 (by decide) ?_
              exact B128 5 v_M_at v_M_begin v_M_kind v_M_value _ _ _ (lv_sub hl [1] rfl) hP hD hS hg
            · have hg := zp hg h120
              refine lv_iconst (v := 4) hx hb dX11_next_123 (by decide) ?_
              refine lv_goto (tgt := 128) hx hb dX11_next_124 (by decide) ?_
              exact B128 4 v_M_at v_M_begin v_M_kind v_M_value _ _ _ (lv_sub hl [1] rfl) hP hD hS hg
          · have hg := zp hg h110
            refine lv_iconst (v := 3) hx hb dX11_next_113 (by decide) ?_
            refine lv_goto (tgt := 128) hx hb dX11_next_114 (by decide) ?_
            exact B128 3 v_M_at v_M_begin v_M_kind v_M_value _ _ _ (lv_sub hl [1] rfl) hP hD hS hg
        · have hg := zn hg h100
          refine lv_iconst (v := 2) hx hb dX11_next_103 (by decide) ?_
          refine lv_goto (tgt := 128) hx hb dX11_next_104 (by decide) ?_
          exact B128 2 v_M_at v_M_begin v_M_kind v_M_value _ _ _ (lv_sub hl [1] rfl) hP hD hS hg
      · have hg := zn hg h89
        refine lv_iconst (v := 1) hx hb dX11_next_92 (by decide) ?_
        refine lv_goto (tgt := 128) hx hb dX11_next_93 (by decide) ?_
        exact B128 1 v_M_at v_M_begin v_M_kind v_M_value _ _ _ (lv_sub hl [1] rfl) hP hD hS hg
    · have hg := zn hg h78
      refine lv_iconst (v := 0) hx hb dX11_next_81 (by decide) ?_
      refine lv_goto (tgt := 128) hx hb dX11_next_82 (by decide) ?_
      exact B128 0 v_M_at v_M_begin v_M_kind v_M_value _ _ _ (lv_sub hl [1] rfl) hP hD hS hg
  have B38 : ∀ (v_M_at : Int32) (v_M_begin : Int32) (v_M_kind : Int32) (v_M_value : Int64) (H : Heap) (locs : List Loc) (ls : Array Slot) (hl : lv_has ls 2 [(0, .ref q_M)]) (hP : va_P D vwCl (ws_X11_next cI cJ cZ cA q_M q_M_text u_M_now u_M_images u_M_kept u_M_sign u_M_manyAbove u_M_manyBelow u_M_above u_M_below u_M_refused u_M_read u_M_acts u_M_act u_M_waits u_M_wait u_M_held u_M_place u_M_heap u_M_clocks u_M_counts u_M_talking u_M_most u_M_hasA u_M_hasB u_M_talks u_M_big v_M_size v_M_at v_M_begin v_M_kind v_M_value a_M_text) H) (hD : va_D A (ws_X11_next cI cJ cZ cA q_M q_M_text u_M_now u_M_images u_M_kept u_M_sign u_M_manyAbove u_M_manyBelow u_M_above u_M_below u_M_refused u_M_read u_M_acts u_M_act u_M_waits u_M_wait u_M_held u_M_place u_M_heap u_M_clocks u_M_counts u_M_talking u_M_most u_M_hasA u_M_hasB u_M_talks u_M_big v_M_size v_M_at v_M_begin v_M_kind v_M_value a_M_text)) (hS : va_S A s.heap H locs), g_X11_next_38 v_M_size a_M_text v_M_at v_M_begin v_M_kind v_M_value = some o → W p l e rm_X11_next s m args below meth c H locs 0 0 Q (F0 m 38 ls []) := by
    intro  v_M_at v_M_begin v_M_kind v_M_value H locs ls hl hP hD hS hg
    refine lv_aload_n hx hb dX11_next_38 rfl (lv_at hl 0 rfl) ?_
    refine lv_aload_n hx hb dX11_next_39 rfl (lv_at hl 0 rfl) ?_
    refine zget (C := RX11) (T := TX11) (N := 31) S hK hP 0 rfl rfl 11 (Nat.le_of_ble_eq_true rfl) zf_11 zw_454 rfl dX11_next_40 ?_
    refine zputf (C := RX11) (T := TX11) (N := 31) (ty := .int) S hK hP hD hS 0 rfl rfl 12 (Nat.le_of_ble_eq_true rfl) zf_11 tyX11 tyX11_ok nmX11 zw_449 rfl (by decide +kernel) rfl rfl (Nat.le_of_ble_eq_true rfl) dX11_next_43 (w2 := (ws_X11_next cI cJ cZ cA q_M q_M_text u_M_now u_M_images u_M_kept u_M_sign u_M_manyAbove u_M_manyBelow u_M_above u_M_below u_M_refused u_M_read u_M_acts u_M_act u_M_waits u_M_wait u_M_held u_M_place u_M_heap u_M_clocks u_M_counts u_M_talking u_M_most u_M_hasA u_M_hasB u_M_talks u_M_big v_M_size v_M_at v_M_at v_M_kind v_M_value a_M_text)) rfl (fun H locs hP hD hS => ?_)
    refine lv_aload_n hx hb dX11_next_46 rfl (lv_at hl 0 rfl) ?_
    refine lv_lconst (v := 0) hx hb dX11_next_47 (by decide) ?_
    refine zputf (C := RX11) (T := TX11) (N := 31) (ty := .long) S hK hP hD hS 0 rfl rfl 14 (Nat.le_of_ble_eq_true rfl) zf_11 tyX11 tyX11_ok nmX11 zw_456 rfl (by decide +kernel) rfl rfl (Nat.le_of_ble_eq_true rfl) dX11_next_48 (w2 := (ws_X11_next cI cJ cZ cA q_M q_M_text u_M_now u_M_images u_M_kept u_M_sign u_M_manyAbove u_M_manyBelow u_M_above u_M_below u_M_refused u_M_read u_M_acts u_M_act u_M_waits u_M_wait u_M_held u_M_place u_M_heap u_M_clocks u_M_counts u_M_talking u_M_most u_M_hasA u_M_hasB u_M_talks u_M_big v_M_size v_M_at v_M_at v_M_kind (0 : Int64) a_M_text)) rfl (fun H locs hP hD hS => ?_)
    refine lv_aload_n hx hb dX11_next_51 rfl (lv_at hl 0 rfl) ?_
    refine zget (C := RX11) (T := TX11) (N := 31) S hK hP 0 rfl rfl 11 (Nat.le_of_ble_eq_true rfl) zf_11 zw_454 rfl dX11_next_52 ?_
    refine lv_aload_n hx hb dX11_next_55 rfl (lv_at hl 0 rfl) ?_
    refine zget (C := RX11) (T := TX11) (N := 31) S hK hP 0 rfl rfl 4 (Nat.le_of_ble_eq_true rfl) zf_11 zw_308 rfl dX11_next_56 ?_
    refine lv_icmp_ge (tgt := 74) hx hb dX11_next_59 (by decide) (fun h59 => ?_) (fun h59 => ?_)
    · have hg := zp hg h59
      refine lv_iconst (v := (-1)) hx hb dX11_next_74 (by decide) ?_
      exact B75 (-1) v_M_at v_M_at v_M_kind (0 : Int64) _ _ _ hl hP hD hS hg
    · have hg := zn hg h59
      refine lv_aload_n hx hb dX11_next_62 rfl (lv_at hl 0 rfl) ?_
      refine zget (C := RX11) (T := TX11) (N := 31) S hK hP 0 rfl rfl 3 (Nat.le_of_ble_eq_true rfl) zf_11 zw_152 rfl dX11_next_63 ?_
      refine lv_aload_n hx hb dX11_next_66 rfl (lv_at hl 0 rfl) ?_
      refine zget (C := RX11) (T := TX11) (N := 31) S hK hP 0 rfl rfl 11 (Nat.le_of_ble_eq_true rfl) zf_11 zw_454 rfl dX11_next_67 ?_
      obtain ⟨h13, hg⟩ := zck hg
      refine ziald hx hb hK hP 1 0 rfl rfl (j := (v_M_at.toNatClampNeg)) h13 rfl dX11_next_70 ?_
      refine lv_goto (tgt := 75) hx hb dX11_next_71 (by decide) ?_
      exact B75 (a_M_text (v_M_at.toNatClampNeg)) v_M_at v_M_at v_M_kind (0 : Int64) _ _ _ hl hP hD hS hg
  have B0 : ∀  (n : Nat) (v_M_at : Int32) (v_M_begin : Int32) (v_M_kind : Int32) (v_M_value : Int64) (H : Heap) (locs : List Loc) (ls : Array Slot) (hl : lv_has ls 2 [(0, .ref q_M)]) (hP : va_P D vwCl (ws_X11_next cI cJ cZ cA q_M q_M_text u_M_now u_M_images u_M_kept u_M_sign u_M_manyAbove u_M_manyBelow u_M_above u_M_below u_M_refused u_M_read u_M_acts u_M_act u_M_waits u_M_wait u_M_held u_M_place u_M_heap u_M_clocks u_M_counts u_M_talking u_M_most u_M_hasA u_M_hasB u_M_talks u_M_big v_M_size v_M_at v_M_begin v_M_kind v_M_value a_M_text) H) (hD : va_D A (ws_X11_next cI cJ cZ cA q_M q_M_text u_M_now u_M_images u_M_kept u_M_sign u_M_manyAbove u_M_manyBelow u_M_above u_M_below u_M_refused u_M_read u_M_acts u_M_act u_M_waits u_M_wait u_M_held u_M_place u_M_heap u_M_clocks u_M_counts u_M_talking u_M_most u_M_hasA u_M_hasB u_M_talks u_M_big v_M_size v_M_at v_M_begin v_M_kind v_M_value a_M_text)) (hS : va_S A s.heap H locs), g_X11_next_0 v_M_size a_M_text n v_M_at v_M_begin v_M_kind v_M_value = some o → W p l e rm_X11_next s m args below meth c H locs 0 0 Q (F0 m 0 ls []) := by
    intro  n
    induction n with
    | zero => intro v_M_at v_M_begin v_M_kind v_M_value H locs ls hl hP hD hS hg; exact nomatch (show (none : Option (Int32 × Int32 × Int32 × Int64)) = some o from hg)
    | succ n ih =>
      intro v_M_at v_M_begin v_M_kind v_M_value H locs ls hl hP hD hS hg
      have hg : g_X11_next_0b v_M_size a_M_text (g_X11_next_0 v_M_size a_M_text n) v_M_at v_M_begin v_M_kind v_M_value = some o := hg
      refine lv_aload_n hx hb dX11_next_0 rfl (lv_at hl 0 rfl) ?_
      refine zget (C := RX11) (T := TX11) (N := 31) S hK hP 0 rfl rfl 11 (Nat.le_of_ble_eq_true rfl) zf_11 zw_454 rfl dX11_next_1 ?_
      refine lv_aload_n hx hb dX11_next_4 rfl (lv_at hl 0 rfl) ?_
      refine zget (C := RX11) (T := TX11) (N := 31) S hK hP 0 rfl rfl 4 (Nat.le_of_ble_eq_true rfl) zf_11 zw_308 rfl dX11_next_5 ?_
      refine lv_icmp_ge (tgt := 38) hx hb dX11_next_8 (by decide) (fun h8 => ?_) (fun h8 => ?_)
      · have hg := zp hg h8
        exact B38 v_M_at v_M_begin v_M_kind v_M_value _ _ _ hl hP hD hS hg
      · have hg := zn hg h8
        refine lv_aload_n hx hb dX11_next_11 rfl (lv_at hl 0 rfl) ?_
        refine zget (C := RX11) (T := TX11) (N := 31) S hK hP 0 rfl rfl 3 (Nat.le_of_ble_eq_true rfl) zf_11 zw_152 rfl dX11_next_12 ?_
        refine lv_aload_n hx hb dX11_next_15 rfl (lv_at hl 0 rfl) ?_
        refine zget (C := RX11) (T := TX11) (N := 31) S hK hP 0 rfl rfl 11 (Nat.le_of_ble_eq_true rfl) zf_11 zw_454 rfl dX11_next_16 ?_
        obtain ⟨h14, hg⟩ := zck hg
        refine ziald hx hb hK hP 1 0 rfl rfl (j := (v_M_at.toNatClampNeg)) h14 rfl dX11_next_19 ?_
        refine lv_bipush (v := 32) hx hb dX11_next_20 (by decide) ?_
        refine lv_icmp_ne (tgt := 38) hx hb dX11_next_22 (by decide) (fun h22 => ?_) (fun h22 => ?_)
        · have hg := zn hg h22
          exact B38 v_M_at v_M_begin v_M_kind v_M_value _ _ _ hl hP hD hS hg
        · have hg := zp hg h22
          refine lv_aload_n hx hb dX11_next_25 rfl (lv_at hl 0 rfl) ?_
          refine lv_dup hx hb dX11_next_26 rfl ?_
          refine zget (C := RX11) (T := TX11) (N := 31) S hK hP 0 rfl rfl 11 (Nat.le_of_ble_eq_true rfl) zf_11 zw_454 rfl dX11_next_27 ?_
          refine lv_iconst (v := 1) hx hb dX11_next_30 (by decide) ?_
          refine lv_iadd hx hb dX11_next_31 ?_
          refine zputf (C := RX11) (T := TX11) (N := 31) (ty := .int) S hK hP hD hS 0 rfl rfl 11 (Nat.le_of_ble_eq_true rfl) zf_11 tyX11 tyX11_ok nmX11 zw_454 rfl (by decide +kernel) rfl rfl (Nat.le_of_ble_eq_true rfl) dX11_next_32 (w2 := (ws_X11_next cI cJ cZ cA q_M q_M_text u_M_now u_M_images u_M_kept u_M_sign u_M_manyAbove u_M_manyBelow u_M_above u_M_below u_M_refused u_M_read u_M_acts u_M_act u_M_waits u_M_wait u_M_held u_M_place u_M_heap u_M_clocks u_M_counts u_M_talking u_M_most u_M_hasA u_M_hasB u_M_talks u_M_big v_M_size (v_M_at + 1) v_M_begin v_M_kind v_M_value a_M_text)) rfl (fun H locs hP hD hS => ?_)
          refine lv_goto (tgt := 0) hx hb dX11_next_35 (by decide) ?_
          exact ih (v_M_at + 1) v_M_begin v_M_kind v_M_value _ _ _ hl hP hD hS hg
  exact B0 zF v_M_at v_M_begin v_M_kind v_M_value _ _ _ hl hP hD hS hg

/-! SpokenClockModel.takes(II)Z -/
abbrev ws_X11_takes (cI cJ cZ cA : ClassId) (q_M q_M_text : Nat) (u_M_now : Value) (u_M_images : Value) (u_M_kept : Value) (u_M_sign : Value) (u_M_manyAbove : Value) (u_M_manyBelow : Value) (u_M_above : Value) (u_M_below : Value) (u_M_refused : Value) (u_M_read : Value) (u_M_acts : Value) (u_M_act : Value) (u_M_waits : Value) (u_M_wait : Value) (u_M_held : Value) (u_M_place : Value) (u_M_heap : Value) (u_M_clocks : Value) (u_M_counts : Value) (u_M_talking : Value) (u_M_most : Value) (u_M_hasA : Value) (u_M_hasB : Value) (u_M_talks : Value) (u_M_big : Value) (v_M_size : Int32) (v_M_at : Int32) (v_M_begin : Int32) (v_M_kind : Int32) (v_M_value : Int64) (a_M_text : Nat → Int32) : va_W := [(q_M, .inr (11, [u_M_now, u_M_images, u_M_kept, .ref q_M_text, .int v_M_size, u_M_sign, u_M_manyAbove, u_M_manyBelow, u_M_above, u_M_below, u_M_refused, .int v_M_at, .int v_M_begin, .int v_M_kind, .long v_M_value, u_M_read, u_M_acts, u_M_act, u_M_waits, u_M_wait, u_M_held, u_M_place, u_M_heap, u_M_clocks, u_M_counts, u_M_talking, u_M_most, u_M_hasA, u_M_hasB, u_M_talks, u_M_big])), (q_M_text, .inl (cI, 250, .inl a_M_text))]
abbrev rm_X11_takes : Room := { frames := 3, cells := 0, slots := 0, locals := 66 }
def g_X11_takes (v_M_size : Int32) (a_M_text : Nat → Int32) (x1 : Int32) (x2 : Int32) (v_M_at : Int32) (v_M_begin : Int32) (v_M_kind : Int32) (v_M_value : Int64) : Option (Int32 × Int32 × Int32 × Int32 × Int64) :=
  (g_X11_next v_M_size a_M_text v_M_at v_M_begin v_M_kind v_M_value).bind fun v1 =>
  if v1.2.2.1 = 2 then (
    (g_X11_in v1.2.2.2 x1.toInt64 x2.toInt64).bind fun v3 =>
    if v3 = 0 then (
      some (0, v1.1, v1.2.1, v1.2.2.1, v1.2.2.2)
    ) else (
      some (1, v1.1, v1.2.1, v1.2.2.1, v1.2.2.2)
    )
  ) else (
    some (0, v1.1, v1.2.1, v1.2.2.1, v1.2.2.2)
  )
theorem hd_X11_takes : yX11_takes.cls = RX11 ∧ yX11_takes.cls ≠ "java/lang/invoke/MethodHandle" ∧ yX11_takes.cls ≠ "java/lang/invoke/VarHandle" ∧ (parseMethodDescriptor yX11_takes.desc).map (fun d => d.parameters.length) = some 2 := by decide +kernel
set_option maxHeartbeats 4000000 in
set_option maxRecDepth 100000 in
theorem c_X11_takes (l : Launch) (D : va_G) (cI cJ cZ cA : ClassId) (ga : Nat → Nat) (q_M q_M_text : Nat) (u_M_now : Value) (u_M_images : Value) (u_M_kept : Value) (u_M_sign : Value) (u_M_manyAbove : Value) (u_M_manyBelow : Value) (u_M_above : Value) (u_M_below : Value) (u_M_refused : Value) (u_M_read : Value) (u_M_acts : Value) (u_M_act : Value) (u_M_waits : Value) (u_M_wait : Value) (u_M_held : Value) (u_M_place : Value) (u_M_heap : Value) (u_M_clocks : Value) (u_M_counts : Value) (u_M_talking : Value) (u_M_most : Value) (u_M_hasA : Value) (u_M_hasB : Value) (u_M_talks : Value) (u_M_big : Value) (v_M_size : Int32) (v_M_at : Int32) (v_M_begin : Int32) (v_M_kind : Int32) (v_M_value : Int64) (a_M_text : Nat → Int32) (x1 : Int32) (x2 : Int32) (o : Int32 × Int32 × Int32 × Int32 × Int64) (hg : g_X11_takes v_M_size a_M_text x1 x2 v_M_at v_M_begin v_M_kind v_M_value = some o) : zM l yX11_takes (Cond.code yX11_takes cX11_takes 3 (some .boolean) :: wsL_law) rm_X11_takes D (zTy cI cJ cZ cA) ga [.ref q_M, .int x1, .int x2] (ws_X11_takes cI cJ cZ cA q_M q_M_text u_M_now u_M_images u_M_kept u_M_sign u_M_manyAbove u_M_manyBelow u_M_above u_M_below u_M_refused u_M_read u_M_acts u_M_act u_M_waits u_M_wait u_M_held u_M_place u_M_heap u_M_clocks u_M_counts u_M_talking u_M_most u_M_hasA u_M_hasB u_M_talks u_M_big v_M_size v_M_at v_M_begin v_M_kind v_M_value a_M_text) (ws_X11_takes cI cJ cZ cA q_M q_M_text u_M_now u_M_images u_M_kept u_M_sign u_M_manyAbove u_M_manyBelow u_M_above u_M_below u_M_refused u_M_read u_M_acts u_M_act u_M_waits u_M_wait u_M_held u_M_place u_M_heap u_M_clocks u_M_counts u_M_talking u_M_most u_M_hasA u_M_hasB u_M_talks u_M_big v_M_size o.2.1 o.2.2.1 o.2.2.2.1 o.2.2.2.2 a_M_text) (some (.int o.1)) := by
  refine zenterN (own := RX11) (by decide) rfl rfl (Nat.le_of_ble_eq_true rfl) ?_
  intro p e s m args below meth c A ls Q S hA hK hG hl hP hD hS hret0
  have hx := S.1
  have hb := S.2.1
  have ht : ∀ w, w ∈ wsL_law → w.before args s = true := fun w h => S.2.2.2.2 w (List.mem_cons_of_mem _ h)
  have hret : ∀ (r9 : Int32) (v_M_at : Int32) (v_M_begin : Int32) (v_M_kind : Int32) (v_M_value : Int64), (some (r9, v_M_at, v_M_begin, v_M_kind, v_M_value) : Option (Int32 × Int32 × Int32 × Int32 × Int64)) = some o → narrow .boolean (.int r9) = .int r9 → ∀ (H : Heap) (locs : List Loc) (pc : Nat) (ls : Array Slot), va_P D vwCl (ws_X11_takes cI cJ cZ cA q_M q_M_text u_M_now u_M_images u_M_kept u_M_sign u_M_manyAbove u_M_manyBelow u_M_above u_M_below u_M_refused u_M_read u_M_acts u_M_act u_M_waits u_M_wait u_M_held u_M_place u_M_heap u_M_clocks u_M_counts u_M_talking u_M_most u_M_hasA u_M_hasB u_M_talks u_M_big v_M_size v_M_at v_M_begin v_M_kind v_M_value a_M_text) H → va_S A s.heap H locs → decode cX11_takes pc = .ok (.ireturn, 1) → W p l e rm_X11_takes s m args below meth c H locs 0 0 Q (F0 m pc ls [.int r9]) := by
    intro r9 v_M_at v_M_begin v_M_kind v_M_value he; cases he; exact hret0
  have hl : lv_has ls 3 [(0, .ref q_M), (1, .int x1), (2, .int x2)] := hl
  refine lv_aload_n hx hb dX11_takes_0 rfl (lv_at hl 0 rfl) ?_
  obtain ⟨v1, hc2, hg⟩ := zbd hg
  refine zcallV (rest := []) S (c_X11_next l D cI cJ cZ cA ga q_M q_M_text u_M_now u_M_images u_M_kept u_M_sign u_M_manyAbove u_M_manyBelow u_M_above u_M_below u_M_refused u_M_read u_M_acts u_M_act u_M_waits u_M_wait u_M_held u_M_place u_M_heap u_M_clocks u_M_counts u_M_talking u_M_most u_M_hasA u_M_hasB u_M_talks u_M_big v_M_size v_M_at v_M_begin v_M_kind v_M_value a_M_text v1 hc2) (zgV zw_464 zw_465 zw_466 zw_5 zw_467) rfl hd_X11_next ⟨rfl, rfl⟩ ⟨Nat.le_of_ble_eq_true rfl, Nat.le_of_ble_eq_true rfl⟩ 0 11 rfl rfl rfl hl.1 rfl (Nat.le_of_ble_eq_true rfl) dX11_takes_1 hP hD hS hA hK hG (isC := [0, 1]) rfl rfl rfl (w2 := (ws_X11_takes cI cJ cZ cA q_M q_M_text u_M_now u_M_images u_M_kept u_M_sign u_M_manyAbove u_M_manyBelow u_M_above u_M_below u_M_refused u_M_read u_M_acts u_M_act u_M_waits u_M_wait u_M_held u_M_place u_M_heap u_M_clocks u_M_counts u_M_talking u_M_most u_M_hasA u_M_hasB u_M_talks u_M_big v_M_size v1.1 v1.2.1 v1.2.2.1 v1.2.2.2 a_M_text)) rfl (st1 := []) rfl (fun H locs hP hD hS => ?_)
  refine lv_aload_n hx hb dX11_takes_4 rfl (lv_at hl 0 rfl) ?_
  refine zget (C := RX11) (T := TX11) (N := 31) S hK hP 0 rfl rfl 13 (Nat.le_of_ble_eq_true rfl) zf_11 zw_455 rfl dX11_takes_5 ?_
  refine lv_iconst (v := 2) hx hb dX11_takes_8 (by decide) ?_
  refine lv_icmp_ne (tgt := 30) hx hb dX11_takes_9 (by decide) (fun h9 => ?_) (fun h9 => ?_)
  · have hg := zn hg h9
    refine lv_iconst (v := 0) hx hb dX11_takes_30 (by decide) ?_
    exact hret 0 v1.1 v1.2.1 v1.2.2.1 v1.2.2.2 hg (zb01 (Or.inl rfl)) _ _ _ _ hP hS dX11_takes_31
  · have hg := zp hg h9
    refine lv_aload_n hx hb dX11_takes_12 rfl (lv_at hl 0 rfl) ?_
    refine zget (C := RX11) (T := TX11) (N := 31) S hK hP 0 rfl rfl 14 (Nat.le_of_ble_eq_true rfl) zf_11 zw_456 rfl dX11_takes_13 ?_
    refine lv_iload_n hx hb dX11_takes_16 rfl (lv_at hl 1 rfl) ?_
    refine lv_i2l hx hb dX11_takes_17 rfl ?_
    refine lv_iload_n hx hb dX11_takes_18 rfl (lv_at hl 2 rfl) ?_
    refine lv_i2l hx hb dX11_takes_19 rfl ?_
    obtain ⟨v3, hc4, hg⟩ := zbd hg
    refine zcallS (rest := []) S (c_X11_in l D cI cJ cZ cA ga v1.2.2.2 x1.toInt64 x2.toInt64 v3 hc4) (zgS zw_220 zw_221 zw_5 zw_222) rfl hd_X11_in ⟨rfl, rfl⟩ ⟨Nat.le_of_ble_eq_true rfl, Nat.le_of_ble_eq_true rfl⟩ rfl hl.1 rfl (Nat.le_of_ble_eq_true rfl) dX11_takes_20 hP hD hS hA hK hG (isC := []) rfl rfl rfl (w2 := (ws_X11_takes cI cJ cZ cA q_M q_M_text u_M_now u_M_images u_M_kept u_M_sign u_M_manyAbove u_M_manyBelow u_M_above u_M_below u_M_refused u_M_read u_M_acts u_M_act u_M_waits u_M_wait u_M_held u_M_place u_M_heap u_M_clocks u_M_counts u_M_talking u_M_most u_M_hasA u_M_hasB u_M_talks u_M_big v_M_size v1.1 v1.2.1 v1.2.2.1 v1.2.2.2 a_M_text)) rfl (st1 := [.int v3]) rfl (fun H locs hP hD hS => ?_)
    refine lv_if_eq (tgt := 30) hx hb dX11_takes_23 (by decide) (fun h23 => ?_) (fun h23 => ?_)
    · have hg := zp hg h23
      refine lv_iconst (v := 0) hx hb dX11_takes_30 (by decide) ?_
      exact hret 0 v1.1 v1.2.1 v1.2.2.1 v1.2.2.2 hg (zb01 (Or.inl rfl)) _ _ _ _ hP hS dX11_takes_31
    · have hg := zn hg h23
      refine lv_iconst (v := 1) hx hb dX11_takes_26 (by decide) ?_
      refine lv_goto (tgt := 31) hx hb dX11_takes_27 (by decide) ?_
      exact hret 1 v1.1 v1.2.1 v1.2.2.1 v1.2.2.2 hg (zb01 (Or.inr rfl)) _ _ _ _ hP hS dX11_takes_31

/-! SpokenClockModel.stops()Z -/
abbrev ws_X11_stops (cI cJ cZ cA : ClassId) (q_M q_M_text : Nat) (u_M_now : Value) (u_M_images : Value) (u_M_kept : Value) (u_M_sign : Value) (u_M_manyAbove : Value) (u_M_manyBelow : Value) (u_M_above : Value) (u_M_below : Value) (u_M_refused : Value) (u_M_read : Value) (u_M_acts : Value) (u_M_act : Value) (u_M_waits : Value) (u_M_wait : Value) (u_M_held : Value) (u_M_place : Value) (u_M_heap : Value) (u_M_clocks : Value) (u_M_counts : Value) (u_M_talking : Value) (u_M_most : Value) (u_M_hasA : Value) (u_M_hasB : Value) (u_M_talks : Value) (u_M_big : Value) (v_M_size : Int32) (v_M_at : Int32) (v_M_begin : Int32) (v_M_kind : Int32) (v_M_value : Int64) (a_M_text : Nat → Int32) : va_W := [(q_M, .inr (11, [u_M_now, u_M_images, u_M_kept, .ref q_M_text, .int v_M_size, u_M_sign, u_M_manyAbove, u_M_manyBelow, u_M_above, u_M_below, u_M_refused, .int v_M_at, .int v_M_begin, .int v_M_kind, .long v_M_value, u_M_read, u_M_acts, u_M_act, u_M_waits, u_M_wait, u_M_held, u_M_place, u_M_heap, u_M_clocks, u_M_counts, u_M_talking, u_M_most, u_M_hasA, u_M_hasB, u_M_talks, u_M_big])), (q_M_text, .inl (cI, 250, .inl a_M_text))]
abbrev rm_X11_stops : Room := { frames := 3, cells := 0, slots := 0, locals := 66 }
def g_X11_stops (v_M_size : Int32) (a_M_text : Nat → Int32) (v_M_at : Int32) (v_M_begin : Int32) (v_M_kind : Int32) (v_M_value : Int64) : Option (Int32 × Int32 × Int32 × Int32 × Int64) :=
  (g_X11_next v_M_size a_M_text v_M_at v_M_begin v_M_kind v_M_value).bind fun v1 =>
  if v1.2.2.1 = 4 then (
    some (1, v1.1, v1.2.1, v1.2.2.1, v1.2.2.2)
  ) else (
    some (0, v1.1, v1.2.1, v1.2.2.1, v1.2.2.2)
  )
theorem hd_X11_stops : yX11_stops.cls = RX11 ∧ yX11_stops.cls ≠ "java/lang/invoke/MethodHandle" ∧ yX11_stops.cls ≠ "java/lang/invoke/VarHandle" ∧ (parseMethodDescriptor yX11_stops.desc).map (fun d => d.parameters.length) = some 0 := by decide +kernel
set_option maxHeartbeats 4000000 in
set_option maxRecDepth 100000 in
theorem c_X11_stops (l : Launch) (D : va_G) (cI cJ cZ cA : ClassId) (ga : Nat → Nat) (q_M q_M_text : Nat) (u_M_now : Value) (u_M_images : Value) (u_M_kept : Value) (u_M_sign : Value) (u_M_manyAbove : Value) (u_M_manyBelow : Value) (u_M_above : Value) (u_M_below : Value) (u_M_refused : Value) (u_M_read : Value) (u_M_acts : Value) (u_M_act : Value) (u_M_waits : Value) (u_M_wait : Value) (u_M_held : Value) (u_M_place : Value) (u_M_heap : Value) (u_M_clocks : Value) (u_M_counts : Value) (u_M_talking : Value) (u_M_most : Value) (u_M_hasA : Value) (u_M_hasB : Value) (u_M_talks : Value) (u_M_big : Value) (v_M_size : Int32) (v_M_at : Int32) (v_M_begin : Int32) (v_M_kind : Int32) (v_M_value : Int64) (a_M_text : Nat → Int32) (o : Int32 × Int32 × Int32 × Int32 × Int64) (hg : g_X11_stops v_M_size a_M_text v_M_at v_M_begin v_M_kind v_M_value = some o) : zM l yX11_stops (Cond.code yX11_stops cX11_stops 1 (some .boolean) :: wsL_law) rm_X11_stops D (zTy cI cJ cZ cA) ga [.ref q_M] (ws_X11_stops cI cJ cZ cA q_M q_M_text u_M_now u_M_images u_M_kept u_M_sign u_M_manyAbove u_M_manyBelow u_M_above u_M_below u_M_refused u_M_read u_M_acts u_M_act u_M_waits u_M_wait u_M_held u_M_place u_M_heap u_M_clocks u_M_counts u_M_talking u_M_most u_M_hasA u_M_hasB u_M_talks u_M_big v_M_size v_M_at v_M_begin v_M_kind v_M_value a_M_text) (ws_X11_stops cI cJ cZ cA q_M q_M_text u_M_now u_M_images u_M_kept u_M_sign u_M_manyAbove u_M_manyBelow u_M_above u_M_below u_M_refused u_M_read u_M_acts u_M_act u_M_waits u_M_wait u_M_held u_M_place u_M_heap u_M_clocks u_M_counts u_M_talking u_M_most u_M_hasA u_M_hasB u_M_talks u_M_big v_M_size o.2.1 o.2.2.1 o.2.2.2.1 o.2.2.2.2 a_M_text) (some (.int o.1)) := by
  refine zenterN (own := RX11) (by decide) rfl rfl (Nat.le_of_ble_eq_true rfl) ?_
  intro p e s m args below meth c A ls Q S hA hK hG hl hP hD hS hret0
  have hx := S.1
  have hb := S.2.1
  have ht : ∀ w, w ∈ wsL_law → w.before args s = true := fun w h => S.2.2.2.2 w (List.mem_cons_of_mem _ h)
  have hret : ∀ (r9 : Int32) (v_M_at : Int32) (v_M_begin : Int32) (v_M_kind : Int32) (v_M_value : Int64), (some (r9, v_M_at, v_M_begin, v_M_kind, v_M_value) : Option (Int32 × Int32 × Int32 × Int32 × Int64)) = some o → narrow .boolean (.int r9) = .int r9 → ∀ (H : Heap) (locs : List Loc) (pc : Nat) (ls : Array Slot), va_P D vwCl (ws_X11_stops cI cJ cZ cA q_M q_M_text u_M_now u_M_images u_M_kept u_M_sign u_M_manyAbove u_M_manyBelow u_M_above u_M_below u_M_refused u_M_read u_M_acts u_M_act u_M_waits u_M_wait u_M_held u_M_place u_M_heap u_M_clocks u_M_counts u_M_talking u_M_most u_M_hasA u_M_hasB u_M_talks u_M_big v_M_size v_M_at v_M_begin v_M_kind v_M_value a_M_text) H → va_S A s.heap H locs → decode cX11_stops pc = .ok (.ireturn, 1) → W p l e rm_X11_stops s m args below meth c H locs 0 0 Q (F0 m pc ls [.int r9]) := by
    intro r9 v_M_at v_M_begin v_M_kind v_M_value he; cases he; exact hret0
  have hl : lv_has ls 1 [(0, .ref q_M)] := hl
  refine lv_aload_n hx hb dX11_stops_0 rfl (lv_at hl 0 rfl) ?_
  obtain ⟨v1, hc2, hg⟩ := zbd hg
  refine zcallV (rest := []) S (c_X11_next l D cI cJ cZ cA ga q_M q_M_text u_M_now u_M_images u_M_kept u_M_sign u_M_manyAbove u_M_manyBelow u_M_above u_M_below u_M_refused u_M_read u_M_acts u_M_act u_M_waits u_M_wait u_M_held u_M_place u_M_heap u_M_clocks u_M_counts u_M_talking u_M_most u_M_hasA u_M_hasB u_M_talks u_M_big v_M_size v_M_at v_M_begin v_M_kind v_M_value a_M_text v1 hc2) (zgV zw_464 zw_465 zw_466 zw_5 zw_467) rfl hd_X11_next ⟨rfl, rfl⟩ ⟨Nat.le_of_ble_eq_true rfl, Nat.le_of_ble_eq_true rfl⟩ 0 11 rfl rfl rfl hl.1 rfl (Nat.le_of_ble_eq_true rfl) dX11_stops_1 hP hD hS hA hK hG (isC := [0, 1]) rfl rfl rfl (w2 := (ws_X11_stops cI cJ cZ cA q_M q_M_text u_M_now u_M_images u_M_kept u_M_sign u_M_manyAbove u_M_manyBelow u_M_above u_M_below u_M_refused u_M_read u_M_acts u_M_act u_M_waits u_M_wait u_M_held u_M_place u_M_heap u_M_clocks u_M_counts u_M_talking u_M_most u_M_hasA u_M_hasB u_M_talks u_M_big v_M_size v1.1 v1.2.1 v1.2.2.1 v1.2.2.2 a_M_text)) rfl (st1 := []) rfl (fun H locs hP hD hS => ?_)
  refine lv_aload_n hx hb dX11_stops_4 rfl (lv_at hl 0 rfl) ?_
  refine zget (C := RX11) (T := TX11) (N := 31) S hK hP 0 rfl rfl 13 (Nat.le_of_ble_eq_true rfl) zf_11 zw_455 rfl dX11_stops_5 ?_
  refine lv_iconst (v := 4) hx hb dX11_stops_8 (by decide) ?_
  refine lv_icmp_ne (tgt := 16) hx hb dX11_stops_9 (by decide) (fun h9 => ?_) (fun h9 => ?_)
  · have hg := zn hg h9
    refine lv_iconst (v := 0) hx hb dX11_stops_16 (by decide) ?_
    exact hret 0 v1.1 v1.2.1 v1.2.2.1 v1.2.2.2 hg (zb01 (Or.inl rfl)) _ _ _ _ hP hS dX11_stops_17
  · have hg := zp hg h9
    refine lv_iconst (v := 1) hx hb dX11_stops_12 (by decide) ?_
    refine lv_goto (tgt := 17) hx hb dX11_stops_13 (by decide) ?_
    exact hret 1 v1.1 v1.2.1 v1.2.2.1 v1.2.2.2 hg (zb01 (Or.inr rfl)) _ _ _ _ hP hS dX11_stops_17

/-! SpokenClockModel.takesPut(I)Z -/
abbrev ws_X11_takesPut (cI cJ cZ cA : ClassId) (q_M q_M_text q_M_read : Nat) (u_M_now : Value) (u_M_images : Value) (u_M_kept : Value) (u_M_sign : Value) (u_M_manyAbove : Value) (u_M_manyBelow : Value) (u_M_above : Value) (u_M_below : Value) (u_M_refused : Value) (u_M_acts : Value) (u_M_act : Value) (u_M_waits : Value) (u_M_wait : Value) (u_M_held : Value) (u_M_place : Value) (u_M_heap : Value) (u_M_clocks : Value) (u_M_counts : Value) (u_M_talking : Value) (u_M_most : Value) (u_M_hasA : Value) (u_M_hasB : Value) (u_M_talks : Value) (u_M_big : Value) (v_M_size : Int32) (v_M_at : Int32) (v_M_begin : Int32) (v_M_kind : Int32) (v_M_value : Int64) (a_M_text : Nat → Int32) (a_M_read : Nat → Int32) : va_W := [(q_M, .inr (11, [u_M_now, u_M_images, u_M_kept, .ref q_M_text, .int v_M_size, u_M_sign, u_M_manyAbove, u_M_manyBelow, u_M_above, u_M_below, u_M_refused, .int v_M_at, .int v_M_begin, .int v_M_kind, .long v_M_value, .ref q_M_read, u_M_acts, u_M_act, u_M_waits, u_M_wait, u_M_held, u_M_place, u_M_heap, u_M_clocks, u_M_counts, u_M_talking, u_M_most, u_M_hasA, u_M_hasB, u_M_talks, u_M_big])), (q_M_text, .inl (cI, 250, .inl a_M_text)), (q_M_read, .inl (cI, 155, .inl a_M_read))]
abbrev rm_X11_takesPut : Room := { frames := 4, cells := 0, slots := 0, locals := 88 }
def g_X11_takesPut_30 (v_M_size : Int32) (a_M_text : Nat → Int32) (x1 : Int32) (t1 : Int32) (t2 : Int32) (v_M_at : Int32) (v_M_begin : Int32) (v_M_kind : Int32) (v_M_value : Int64) (a_M_read : Nat → Int32) : Option (Int32 × Int32 × Int32 × Int32 × Int64 × (Nat → Int32)) :=
  (g_X11_takes v_M_size a_M_text t1 t2 v_M_at v_M_begin v_M_kind v_M_value).bind fun v1 =>
  if v1.1 = 0 then (
    some (0, v1.2.1, v1.2.2.1, v1.2.2.2.1, v1.2.2.2.2, a_M_read)
  ) else (
    if (0 + x1) < 0 ∨ 155 ≤ (0 + x1).toNatClampNeg then none else
    (g_X11_stops v_M_size a_M_text v1.2.1 v1.2.2.1 v1.2.2.2.1 v1.2.2.2.2).bind fun v4 =>
    if v4.1 = 0 ∨ v4.1 = 1 then
      some (v4.1, v4.2.1, v4.2.2.1, v4.2.2.2.1, v4.2.2.2.2, upd a_M_read ((0 + x1).toNatClampNeg) v1.2.2.2.2.toInt32)
    else none
  )
def g_X11_takesPut_10 (v_M_size : Int32) (a_M_text : Nat → Int32) (x1 : Int32) (t1 : Int32) (v_M_at : Int32) (v_M_begin : Int32) (v_M_kind : Int32) (v_M_value : Int64) (a_M_read : Nat → Int32) : Option (Int32 × Int32 × Int32 × Int32 × Int64 × (Nat → Int32)) :=
  if x1 = 0 then (
    g_X11_takesPut_30 v_M_size a_M_text x1 t1 4 v_M_at v_M_begin v_M_kind v_M_value a_M_read
  ) else (
    if x1 = 1 then (
      g_X11_takesPut_30 v_M_size a_M_text x1 t1 1 v_M_at v_M_begin v_M_kind v_M_value a_M_read
    ) else (
      g_X11_takesPut_30 v_M_size a_M_text x1 t1 240 v_M_at v_M_begin v_M_kind v_M_value a_M_read
    )
  )
def g_X11_takesPut (v_M_size : Int32) (a_M_text : Nat → Int32) (x1 : Int32) (v_M_at : Int32) (v_M_begin : Int32) (v_M_kind : Int32) (v_M_value : Int64) (a_M_read : Nat → Int32) : Option (Int32 × Int32 × Int32 × Int32 × Int64 × (Nat → Int32)) :=
  if x1 = 0 then (
    g_X11_takesPut_10 v_M_size a_M_text x1 1 v_M_at v_M_begin v_M_kind v_M_value a_M_read
  ) else (
    g_X11_takesPut_10 v_M_size a_M_text x1 0 v_M_at v_M_begin v_M_kind v_M_value a_M_read
  )
theorem hd_X11_takesPut : yX11_takesPut.cls = RX11 ∧ yX11_takesPut.cls ≠ "java/lang/invoke/MethodHandle" ∧ yX11_takesPut.cls ≠ "java/lang/invoke/VarHandle" ∧ (parseMethodDescriptor yX11_takesPut.desc).map (fun d => d.parameters.length) = some 1 := by decide +kernel
set_option maxHeartbeats 4000000 in
set_option maxRecDepth 100000 in
theorem c_X11_takesPut (l : Launch) (D : va_G) (cI cJ cZ cA : ClassId) (ga : Nat → Nat) (q_M q_M_text q_M_read : Nat) (u_M_now : Value) (u_M_images : Value) (u_M_kept : Value) (u_M_sign : Value) (u_M_manyAbove : Value) (u_M_manyBelow : Value) (u_M_above : Value) (u_M_below : Value) (u_M_refused : Value) (u_M_acts : Value) (u_M_act : Value) (u_M_waits : Value) (u_M_wait : Value) (u_M_held : Value) (u_M_place : Value) (u_M_heap : Value) (u_M_clocks : Value) (u_M_counts : Value) (u_M_talking : Value) (u_M_most : Value) (u_M_hasA : Value) (u_M_hasB : Value) (u_M_talks : Value) (u_M_big : Value) (v_M_size : Int32) (v_M_at : Int32) (v_M_begin : Int32) (v_M_kind : Int32) (v_M_value : Int64) (a_M_text : Nat → Int32) (a_M_read : Nat → Int32) (x1 : Int32) (o : Int32 × Int32 × Int32 × Int32 × Int64 × (Nat → Int32)) (hg : g_X11_takesPut v_M_size a_M_text x1 v_M_at v_M_begin v_M_kind v_M_value a_M_read = some o) : zM l yX11_takesPut (Cond.code yX11_takesPut cX11_takesPut 2 (some .boolean) :: wsL_law) rm_X11_takesPut D (zTy cI cJ cZ cA) ga [.ref q_M, .int x1] (ws_X11_takesPut cI cJ cZ cA q_M q_M_text q_M_read u_M_now u_M_images u_M_kept u_M_sign u_M_manyAbove u_M_manyBelow u_M_above u_M_below u_M_refused u_M_acts u_M_act u_M_waits u_M_wait u_M_held u_M_place u_M_heap u_M_clocks u_M_counts u_M_talking u_M_most u_M_hasA u_M_hasB u_M_talks u_M_big v_M_size v_M_at v_M_begin v_M_kind v_M_value a_M_text a_M_read) (ws_X11_takesPut cI cJ cZ cA q_M q_M_text q_M_read u_M_now u_M_images u_M_kept u_M_sign u_M_manyAbove u_M_manyBelow u_M_above u_M_below u_M_refused u_M_acts u_M_act u_M_waits u_M_wait u_M_held u_M_place u_M_heap u_M_clocks u_M_counts u_M_talking u_M_most u_M_hasA u_M_hasB u_M_talks u_M_big v_M_size o.2.1 o.2.2.1 o.2.2.2.1 o.2.2.2.2.1 a_M_text o.2.2.2.2.2) (some (.int o.1)) := by
  refine zenterN (own := RX11) (by decide) rfl rfl (Nat.le_of_ble_eq_true rfl) ?_
  intro p e s m args below meth c A ls Q S hA hK hG hl hP hD hS hret0
  have hx := S.1
  have hb := S.2.1
  have ht : ∀ w, w ∈ wsL_law → w.before args s = true := fun w h => S.2.2.2.2 w (List.mem_cons_of_mem _ h)
  have hret : ∀ (r9 : Int32) (v_M_at : Int32) (v_M_begin : Int32) (v_M_kind : Int32) (v_M_value : Int64) (a_M_read : Nat → Int32), (some (r9, v_M_at, v_M_begin, v_M_kind, v_M_value, a_M_read) : Option (Int32 × Int32 × Int32 × Int32 × Int64 × (Nat → Int32))) = some o → narrow .boolean (.int r9) = .int r9 → ∀ (H : Heap) (locs : List Loc) (pc : Nat) (ls : Array Slot), va_P D vwCl (ws_X11_takesPut cI cJ cZ cA q_M q_M_text q_M_read u_M_now u_M_images u_M_kept u_M_sign u_M_manyAbove u_M_manyBelow u_M_above u_M_below u_M_refused u_M_acts u_M_act u_M_waits u_M_wait u_M_held u_M_place u_M_heap u_M_clocks u_M_counts u_M_talking u_M_most u_M_hasA u_M_hasB u_M_talks u_M_big v_M_size v_M_at v_M_begin v_M_kind v_M_value a_M_text a_M_read) H → va_S A s.heap H locs → decode cX11_takesPut pc = .ok (.ireturn, 1) → W p l e rm_X11_takesPut s m args below meth c H locs 0 0 Q (F0 m pc ls [.int r9]) := by
    intro r9 v_M_at v_M_begin v_M_kind v_M_value a_M_read he; cases he; exact hret0
  have hl : lv_has ls 2 [(0, .ref q_M), (1, .int x1)] := hl
  have B30 : ∀ (t1 : Int32) (t2 : Int32) (v_M_at : Int32) (v_M_begin : Int32) (v_M_kind : Int32) (v_M_value : Int64) (a_M_read : Nat → Int32) (H : Heap) (locs : List Loc) (ls : Array Slot) (hl : lv_has ls 2 [(0, .ref q_M), (1, .int x1)]) (hP : va_P D vwCl (ws_X11_takesPut cI cJ cZ cA q_M q_M_text q_M_read u_M_now u_M_images u_M_kept u_M_sign u_M_manyAbove u_M_manyBelow u_M_above u_M_below u_M_refused u_M_acts u_M_act u_M_waits u_M_wait u_M_held u_M_place u_M_heap u_M_clocks u_M_counts u_M_talking u_M_most u_M_hasA u_M_hasB u_M_talks u_M_big v_M_size v_M_at v_M_begin v_M_kind v_M_value a_M_text a_M_read) H) (hD : va_D A (ws_X11_takesPut cI cJ cZ cA q_M q_M_text q_M_read u_M_now u_M_images u_M_kept u_M_sign u_M_manyAbove u_M_manyBelow u_M_above u_M_below u_M_refused u_M_acts u_M_act u_M_waits u_M_wait u_M_held u_M_place u_M_heap u_M_clocks u_M_counts u_M_talking u_M_most u_M_hasA u_M_hasB u_M_talks u_M_big v_M_size v_M_at v_M_begin v_M_kind v_M_value a_M_text a_M_read)) (hS : va_S A s.heap H locs), g_X11_takesPut_30 v_M_size a_M_text x1 t1 t2 v_M_at v_M_begin v_M_kind v_M_value a_M_read = some o → W p l e rm_X11_takesPut s m args below meth c H locs 0 0 Q (F0 m 30 ls [.int t2, .int t1, .ref q_M]) := by
    intro  t1 t2 v_M_at v_M_begin v_M_kind v_M_value a_M_read H locs ls hl hP hD hS hg
    obtain ⟨v1, hc2, hg⟩ := zbd hg
    refine zcallV (rest := []) S (c_X11_takes l D cI cJ cZ cA ga q_M q_M_text u_M_now u_M_images u_M_kept u_M_sign u_M_manyAbove u_M_manyBelow u_M_above u_M_below u_M_refused (.ref q_M_read) u_M_acts u_M_act u_M_waits u_M_wait u_M_held u_M_place u_M_heap u_M_clocks u_M_counts u_M_talking u_M_most u_M_hasA u_M_hasB u_M_talks u_M_big v_M_size v_M_at v_M_begin v_M_kind v_M_value a_M_text t1 t2 v1 hc2) (zgV zw_487 zw_488 zw_489 zw_5 zw_490) rfl hd_X11_takes ⟨rfl, rfl⟩ ⟨Nat.le_of_ble_eq_true rfl, Nat.le_of_ble_eq_true rfl⟩ 0 11 rfl rfl rfl hl.1 rfl (Nat.le_of_ble_eq_true rfl) dX11_takesPut_30 hP hD hS hA hK hG (isC := [0, 1]) rfl rfl rfl (w2 := (ws_X11_takesPut cI cJ cZ cA q_M q_M_text q_M_read u_M_now u_M_images u_M_kept u_M_sign u_M_manyAbove u_M_manyBelow u_M_above u_M_below u_M_refused u_M_acts u_M_act u_M_waits u_M_wait u_M_held u_M_place u_M_heap u_M_clocks u_M_counts u_M_talking u_M_most u_M_hasA u_M_hasB u_M_talks u_M_big v_M_size v1.2.1 v1.2.2.1 v1.2.2.2.1 v1.2.2.2.2 a_M_text a_M_read)) rfl (st1 := [.int v1.1]) rfl (fun H locs hP hD hS => ?_)
    refine lv_if_ne (tgt := 38) hx hb dX11_takesPut_33 (by decide) (fun h33 => ?_) (fun h33 => ?_)
    · have hg := zn hg h33
      refine lv_aload_n hx hb dX11_takesPut_38 rfl (lv_at hl 0 rfl) ?_
      refine zget (C := RX11) (T := TX11) (N := 31) S hK hP 0 rfl rfl 15 (Nat.le_of_ble_eq_true rfl) zf_11 zw_157 rfl dX11_takesPut_39 ?_
      refine lv_iconst (v := 0) hx hb dX11_takesPut_42 (by decide) ?_
      refine lv_iload_n hx hb dX11_takesPut_43 rfl (lv_at hl 1 rfl) ?_
      refine lv_iadd hx hb dX11_takesPut_44 ?_
      refine lv_aload_n hx hb dX11_takesPut_45 rfl (lv_at hl 0 rfl) ?_
      refine zget (C := RX11) (T := TX11) (N := 31) S hK hP 0 rfl rfl 14 (Nat.le_of_ble_eq_true rfl) zf_11 zw_456 rfl dX11_takesPut_46 ?_
      refine lv_l2i hx hb dX11_takesPut_49 rfl ?_
      obtain ⟨h3, hg⟩ := zck hg
      refine ziast hx hb hK hP hD hS 2 0 rfl rfl (j := ((0 + x1).toNatClampNeg)) h3 rfl dX11_takesPut_50 (w2 := (ws_X11_takesPut cI cJ cZ cA q_M q_M_text q_M_read u_M_now u_M_images u_M_kept u_M_sign u_M_manyAbove u_M_manyBelow u_M_above u_M_below u_M_refused u_M_acts u_M_act u_M_waits u_M_wait u_M_held u_M_place u_M_heap u_M_clocks u_M_counts u_M_talking u_M_most u_M_hasA u_M_hasB u_M_talks u_M_big v_M_size v1.2.1 v1.2.2.1 v1.2.2.2.1 v1.2.2.2.2 a_M_text (upd a_M_read ((0 + x1).toNatClampNeg) v1.2.2.2.2.toInt32))) rfl (fun H locs hP hD hS => ?_)
      refine lv_aload_n hx hb dX11_takesPut_51 rfl (lv_at hl 0 rfl) ?_
      obtain ⟨v4, hc5, hg⟩ := zbd hg
      refine zcallV (rest := []) S (c_X11_stops l D cI cJ cZ cA ga q_M q_M_text u_M_now u_M_images u_M_kept u_M_sign u_M_manyAbove u_M_manyBelow u_M_above u_M_below u_M_refused (.ref q_M_read) u_M_acts u_M_act u_M_waits u_M_wait u_M_held u_M_place u_M_heap u_M_clocks u_M_counts u_M_talking u_M_most u_M_hasA u_M_hasB u_M_talks u_M_big v_M_size v1.2.1 v1.2.2.1 v1.2.2.2.1 v1.2.2.2.2 a_M_text v4 hc5) (zgV zw_491 zw_492 zw_493 zw_5 zw_494) rfl hd_X11_stops ⟨rfl, rfl⟩ ⟨Nat.le_of_ble_eq_true rfl, Nat.le_of_ble_eq_true rfl⟩ 0 11 rfl rfl rfl hl.1 rfl (Nat.le_of_ble_eq_true rfl) dX11_takesPut_52 hP hD hS hA hK hG (isC := [0, 1]) rfl rfl rfl (w2 := (ws_X11_takesPut cI cJ cZ cA q_M q_M_text q_M_read u_M_now u_M_images u_M_kept u_M_sign u_M_manyAbove u_M_manyBelow u_M_above u_M_below u_M_refused u_M_acts u_M_act u_M_waits u_M_wait u_M_held u_M_place u_M_heap u_M_clocks u_M_counts u_M_talking u_M_most u_M_hasA u_M_hasB u_M_talks u_M_big v_M_size v4.2.1 v4.2.2.1 v4.2.2.2.1 v4.2.2.2.2 a_M_text (upd a_M_read ((0 + x1).toNatClampNeg) v1.2.2.2.2.toInt32))) rfl (st1 := [.int v4.1]) rfl (fun H locs hP hD hS => ?_)
      obtain ⟨hz01, hg⟩ := zck2 hg
      exact hret v4.1 v4.2.1 v4.2.2.1 v4.2.2.2.1 v4.2.2.2.2 (upd a_M_read ((0 + x1).toNatClampNeg) v1.2.2.2.2.toInt32) hg (zb01 hz01) _ _ _ _ hP hS dX11_takesPut_55
    · have hg := zp hg h33
      refine lv_iconst (v := 0) hx hb dX11_takesPut_36 (by decide) ?_
      exact hret 0 v1.2.1 v1.2.2.1 v1.2.2.2.1 v1.2.2.2.2 a_M_read hg (zb01 (Or.inl rfl)) _ _ _ _ hP hS dX11_takesPut_37
  have B10 : ∀ (t1 : Int32) (v_M_at : Int32) (v_M_begin : Int32) (v_M_kind : Int32) (v_M_value : Int64) (a_M_read : Nat → Int32) (H : Heap) (locs : List Loc) (ls : Array Slot) (hl : lv_has ls 2 [(0, .ref q_M), (1, .int x1)]) (hP : va_P D vwCl (ws_X11_takesPut cI cJ cZ cA q_M q_M_text q_M_read u_M_now u_M_images u_M_kept u_M_sign u_M_manyAbove u_M_manyBelow u_M_above u_M_below u_M_refused u_M_acts u_M_act u_M_waits u_M_wait u_M_held u_M_place u_M_heap u_M_clocks u_M_counts u_M_talking u_M_most u_M_hasA u_M_hasB u_M_talks u_M_big v_M_size v_M_at v_M_begin v_M_kind v_M_value a_M_text a_M_read) H) (hD : va_D A (ws_X11_takesPut cI cJ cZ cA q_M q_M_text q_M_read u_M_now u_M_images u_M_kept u_M_sign u_M_manyAbove u_M_manyBelow u_M_above u_M_below u_M_refused u_M_acts u_M_act u_M_waits u_M_wait u_M_held u_M_place u_M_heap u_M_clocks u_M_counts u_M_talking u_M_most u_M_hasA u_M_hasB u_M_talks u_M_big v_M_size v_M_at v_M_begin v_M_kind v_M_value a_M_text a_M_read)) (hS : va_S A s.heap H locs), g_X11_takesPut_10 v_M_size a_M_text x1 t1 v_M_at v_M_begin v_M_kind v_M_value a_M_read = some o → W p l e rm_X11_takesPut s m args below meth c H locs 0 0 Q (F0 m 10 ls [.int t1, .ref q_M]) := by
    intro  t1 v_M_at v_M_begin v_M_kind v_M_value a_M_read H locs ls hl hP hD hS hg
    refine lv_iload_n hx hb dX11_takesPut_10 rfl (lv_at hl 1 rfl) ?_
    refine lv_if_ne (tgt := 18) hx hb dX11_takesPut_11 (by decide) (fun h11 => ?_) (fun h11 => ?_)
    · have hg := zn hg h11
      refine lv_iload_n hx hb dX11_takesPut_18 rfl (lv_at hl 1 rfl) ?_
      refine lv_iconst (v := 1) hx hb dX11_takesPut_19 (by decide) ?_
      refine lv_icmp_ne (tgt := 27) hx hb dX11_takesPut_20 (by decide) (fun h20 => ?_) (fun h20 => ?_)
      · have hg := zn hg h20
        refine lv_sipush (v := 240) hx hb dX11_takesPut_27 (by decide) ?_
        exact B30 t1 240 v_M_at v_M_begin v_M_kind v_M_value a_M_read _ _ _ hl hP hD hS hg
      · have hg := zp hg h20
        refine lv_iconst (v := 1) hx hb dX11_takesPut_23 (by decide) ?_
        refine lv_goto (tgt := 30) hx hb dX11_takesPut_24 (by decide) ?_
        exact B30 t1 1 v_M_at v_M_begin v_M_kind v_M_value a_M_read _ _ _ hl hP hD hS hg
    · have hg := zp hg h11
      refine lv_iconst (v := 4) hx hb dX11_takesPut_14 (by decide) ?_
      refine lv_goto (tgt := 30) hx hb dX11_takesPut_15 (by decide) ?_
      exact B30 t1 4 v_M_at v_M_begin v_M_kind v_M_value a_M_read _ _ _ hl hP hD hS hg
  refine lv_aload_n hx hb dX11_takesPut_0 rfl (lv_at hl 0 rfl) ?_
  refine lv_iload_n hx hb dX11_takesPut_1 rfl (lv_at hl 1 rfl) ?_
  refine lv_if_ne (tgt := 9) hx hb dX11_takesPut_2 (by decide) (fun h2 => ?_) (fun h2 => ?_)
  · have hg := zn hg h2
    refine lv_iconst (v := 0) hx hb dX11_takesPut_9 (by decide) ?_
    exact B10 0 v_M_at v_M_begin v_M_kind v_M_value a_M_read _ _ _ hl hP hD hS hg
  · have hg := zp hg h2
    refine lv_iconst (v := 1) hx hb dX11_takesPut_5 (by decide) ?_
    refine lv_goto (tgt := 10) hx hb dX11_takesPut_6 (by decide) ?_
    exact B10 1 v_M_at v_M_begin v_M_kind v_M_value a_M_read _ _ _ hl hP hD hS hg

/-! SpokenClockModel.takesPerson()Z -/
abbrev ws_X11_takesPerson (cI cJ cZ cA : ClassId) (q_M q_M_read q_M_text : Nat) (u_M_now : Value) (u_M_images : Value) (u_M_kept : Value) (u_M_sign : Value) (u_M_manyAbove : Value) (u_M_manyBelow : Value) (u_M_above : Value) (u_M_below : Value) (u_M_refused : Value) (u_M_acts : Value) (u_M_act : Value) (u_M_waits : Value) (u_M_wait : Value) (u_M_held : Value) (u_M_place : Value) (u_M_heap : Value) (u_M_clocks : Value) (u_M_counts : Value) (u_M_talking : Value) (u_M_most : Value) (u_M_hasA : Value) (u_M_hasB : Value) (u_M_talks : Value) (u_M_big : Value) (v_M_size : Int32) (v_M_at : Int32) (v_M_begin : Int32) (v_M_kind : Int32) (v_M_value : Int64) (a_M_read : Nat → Int32) (a_M_text : Nat → Int32) : va_W := [(q_M, .inr (11, [u_M_now, u_M_images, u_M_kept, .ref q_M_text, .int v_M_size, u_M_sign, u_M_manyAbove, u_M_manyBelow, u_M_above, u_M_below, u_M_refused, .int v_M_at, .int v_M_begin, .int v_M_kind, .long v_M_value, .ref q_M_read, u_M_acts, u_M_act, u_M_waits, u_M_wait, u_M_held, u_M_place, u_M_heap, u_M_clocks, u_M_counts, u_M_talking, u_M_most, u_M_hasA, u_M_hasB, u_M_talks, u_M_big])), (q_M_read, .inl (cI, 155, .inl a_M_read)), (q_M_text, .inl (cI, 250, .inl a_M_text))]
abbrev rm_X11_takesPerson : Room := { frames := 4, cells := 0, slots := 0, locals := 88 }
def g_X11_takesPerson (v_M_size : Int32) (a_M_text : Nat → Int32) (v_M_at : Int32) (v_M_begin : Int32) (v_M_kind : Int32) (v_M_value : Int64) (a_M_read : Nat → Int32) : Option (Int32 × Int32 × Int32 × Int32 × Int64 × (Nat → Int32)) :=
  if (a_M_read 3) = 5 then (
    some (0, v_M_at, v_M_begin, v_M_kind, v_M_value, a_M_read)
  ) else (
    (g_X11_takes v_M_size a_M_text 0 5 v_M_at v_M_begin v_M_kind v_M_value).bind fun v1 =>
    if v1.1 = 0 then (
      some (0, v1.2.1, v1.2.2.1, v1.2.2.2.1, v1.2.2.2.2, a_M_read)
    ) else (
      if (13 + (a_M_read 3)) < 0 ∨ 155 ≤ (13 + (a_M_read 3)).toNatClampNeg then none else
      (g_X11_takes v_M_size a_M_text 0 1 v1.2.1 v1.2.2.1 v1.2.2.2.1 v1.2.2.2.2).bind fun v4 =>
      if v4.1 = 0 then (
        some (0, v4.2.1, v4.2.2.1, v4.2.2.2.1, v4.2.2.2.2, upd a_M_read ((13 + (a_M_read 3)).toNatClampNeg) v1.2.2.2.2.toInt32)
      ) else (
        if (18 + (a_M_read 3)) < 0 ∨ 155 ≤ (18 + (a_M_read 3)).toNatClampNeg then none else
        (g_X11_stops v_M_size a_M_text v4.2.1 v4.2.2.1 v4.2.2.2.1 v4.2.2.2.2).bind fun v7 =>
        if v7.1 = 0 ∨ v7.1 = 1 then
          some (v7.1, v7.2.1, v7.2.2.1, v7.2.2.2.1, v7.2.2.2.2, upd (upd (upd a_M_read ((13 + (a_M_read 3)).toNatClampNeg) v1.2.2.2.2.toInt32) ((18 + (a_M_read 3)).toNatClampNeg) v4.2.2.2.2.toInt32) 3 (((upd (upd a_M_read ((13 + (a_M_read 3)).toNatClampNeg) v1.2.2.2.2.toInt32) ((18 + (a_M_read 3)).toNatClampNeg) v4.2.2.2.2.toInt32) 3) + 1))
        else none
      )
    )
  )
theorem hd_X11_takesPerson : yX11_takesPerson.cls = RX11 ∧ yX11_takesPerson.cls ≠ "java/lang/invoke/MethodHandle" ∧ yX11_takesPerson.cls ≠ "java/lang/invoke/VarHandle" ∧ (parseMethodDescriptor yX11_takesPerson.desc).map (fun d => d.parameters.length) = some 0 := by decide +kernel
set_option maxHeartbeats 4000000 in
set_option maxRecDepth 100000 in
theorem c_X11_takesPerson (l : Launch) (D : va_G) (cI cJ cZ cA : ClassId) (ga : Nat → Nat) (q_M q_M_read q_M_text : Nat) (u_M_now : Value) (u_M_images : Value) (u_M_kept : Value) (u_M_sign : Value) (u_M_manyAbove : Value) (u_M_manyBelow : Value) (u_M_above : Value) (u_M_below : Value) (u_M_refused : Value) (u_M_acts : Value) (u_M_act : Value) (u_M_waits : Value) (u_M_wait : Value) (u_M_held : Value) (u_M_place : Value) (u_M_heap : Value) (u_M_clocks : Value) (u_M_counts : Value) (u_M_talking : Value) (u_M_most : Value) (u_M_hasA : Value) (u_M_hasB : Value) (u_M_talks : Value) (u_M_big : Value) (v_M_size : Int32) (v_M_at : Int32) (v_M_begin : Int32) (v_M_kind : Int32) (v_M_value : Int64) (a_M_read : Nat → Int32) (a_M_text : Nat → Int32) (o : Int32 × Int32 × Int32 × Int32 × Int64 × (Nat → Int32)) (hg : g_X11_takesPerson v_M_size a_M_text v_M_at v_M_begin v_M_kind v_M_value a_M_read = some o) : zM l yX11_takesPerson (Cond.code yX11_takesPerson cX11_takesPerson 2 (some .boolean) :: wsL_law) rm_X11_takesPerson D (zTy cI cJ cZ cA) ga [.ref q_M] (ws_X11_takesPerson cI cJ cZ cA q_M q_M_read q_M_text u_M_now u_M_images u_M_kept u_M_sign u_M_manyAbove u_M_manyBelow u_M_above u_M_below u_M_refused u_M_acts u_M_act u_M_waits u_M_wait u_M_held u_M_place u_M_heap u_M_clocks u_M_counts u_M_talking u_M_most u_M_hasA u_M_hasB u_M_talks u_M_big v_M_size v_M_at v_M_begin v_M_kind v_M_value a_M_read a_M_text) (ws_X11_takesPerson cI cJ cZ cA q_M q_M_read q_M_text u_M_now u_M_images u_M_kept u_M_sign u_M_manyAbove u_M_manyBelow u_M_above u_M_below u_M_refused u_M_acts u_M_act u_M_waits u_M_wait u_M_held u_M_place u_M_heap u_M_clocks u_M_counts u_M_talking u_M_most u_M_hasA u_M_hasB u_M_talks u_M_big v_M_size o.2.1 o.2.2.1 o.2.2.2.1 o.2.2.2.2.1 o.2.2.2.2.2 a_M_text) (some (.int o.1)) := by
  refine zenterN (own := RX11) (by decide) rfl rfl (Nat.le_of_ble_eq_true rfl) ?_
  intro p e s m args below meth c A ls Q S hA hK hG hl hP hD hS hret0
  have hx := S.1
  have hb := S.2.1
  have ht : ∀ w, w ∈ wsL_law → w.before args s = true := fun w h => S.2.2.2.2 w (List.mem_cons_of_mem _ h)
  have hret : ∀ (r9 : Int32) (v_M_at : Int32) (v_M_begin : Int32) (v_M_kind : Int32) (v_M_value : Int64) (a_M_read : Nat → Int32), (some (r9, v_M_at, v_M_begin, v_M_kind, v_M_value, a_M_read) : Option (Int32 × Int32 × Int32 × Int32 × Int64 × (Nat → Int32))) = some o → narrow .boolean (.int r9) = .int r9 → ∀ (H : Heap) (locs : List Loc) (pc : Nat) (ls : Array Slot), va_P D vwCl (ws_X11_takesPerson cI cJ cZ cA q_M q_M_read q_M_text u_M_now u_M_images u_M_kept u_M_sign u_M_manyAbove u_M_manyBelow u_M_above u_M_below u_M_refused u_M_acts u_M_act u_M_waits u_M_wait u_M_held u_M_place u_M_heap u_M_clocks u_M_counts u_M_talking u_M_most u_M_hasA u_M_hasB u_M_talks u_M_big v_M_size v_M_at v_M_begin v_M_kind v_M_value a_M_read a_M_text) H → va_S A s.heap H locs → decode cX11_takesPerson pc = .ok (.ireturn, 1) → W p l e rm_X11_takesPerson s m args below meth c H locs 0 0 Q (F0 m pc ls [.int r9]) := by
    intro r9 v_M_at v_M_begin v_M_kind v_M_value a_M_read he; cases he; exact hret0
  have hl : lv_has ls 2 [(0, .ref q_M)] := hl
  refine lv_aload_n hx hb dX11_takesPerson_0 rfl (lv_at hl 0 rfl) ?_
  refine zget (C := RX11) (T := TX11) (N := 31) S hK hP 0 rfl rfl 15 (Nat.le_of_ble_eq_true rfl) zf_11 zw_157 rfl dX11_takesPerson_1 ?_
  refine lv_iconst (v := 3) hx hb dX11_takesPerson_4 (by decide) ?_
  refine ziald hx hb hK hP 1 0 rfl rfl (j := 3) (zin (by decide)) (by decide) dX11_takesPerson_5 ?_
  refine lv_istore_n (lv' := [(1, .int (a_M_read 3)), (0, .ref q_M)]) hx hb dX11_takesPerson_6 rfl hl (by decide) rfl (fun ls hl => ?_)
  refine lv_iload_n hx hb dX11_takesPerson_7 rfl (lv_at hl 0 rfl) ?_
  refine lv_iconst (v := 5) hx hb dX11_takesPerson_8 (by decide) ?_
  refine lv_icmp_eq (tgt := 21) hx hb dX11_takesPerson_9 (by decide) (fun h9 => ?_) (fun h9 => ?_)
  · have hg := zp hg h9
    refine lv_iconst (v := 0) hx hb dX11_takesPerson_21 (by decide) ?_
    exact hret 0 v_M_at v_M_begin v_M_kind v_M_value a_M_read hg (zb01 (Or.inl rfl)) _ _ _ _ hP hS dX11_takesPerson_22
  · have hg := zn hg h9
    refine lv_aload_n hx hb dX11_takesPerson_12 rfl (lv_at hl 1 rfl) ?_
    refine lv_iconst (v := 0) hx hb dX11_takesPerson_13 (by decide) ?_
    refine lv_iconst (v := 5) hx hb dX11_takesPerson_14 (by decide) ?_
    obtain ⟨v1, hc2, hg⟩ := zbd hg
    refine zcallV (rest := []) S (c_X11_takes l D cI cJ cZ cA ga q_M q_M_text u_M_now u_M_images u_M_kept u_M_sign u_M_manyAbove u_M_manyBelow u_M_above u_M_below u_M_refused (.ref q_M_read) u_M_acts u_M_act u_M_waits u_M_wait u_M_held u_M_place u_M_heap u_M_clocks u_M_counts u_M_talking u_M_most u_M_hasA u_M_hasB u_M_talks u_M_big v_M_size v_M_at v_M_begin v_M_kind v_M_value a_M_text 0 5 v1 hc2) (zgV zw_487 zw_488 zw_489 zw_5 zw_490) rfl hd_X11_takes ⟨rfl, rfl⟩ ⟨Nat.le_of_ble_eq_true rfl, Nat.le_of_ble_eq_true rfl⟩ 0 11 rfl rfl rfl hl.1 rfl (Nat.le_of_ble_eq_true rfl) dX11_takesPerson_15 hP hD hS hA hK hG (isC := [0, 2]) rfl rfl rfl (w2 := (ws_X11_takesPerson cI cJ cZ cA q_M q_M_read q_M_text u_M_now u_M_images u_M_kept u_M_sign u_M_manyAbove u_M_manyBelow u_M_above u_M_below u_M_refused u_M_acts u_M_act u_M_waits u_M_wait u_M_held u_M_place u_M_heap u_M_clocks u_M_counts u_M_talking u_M_most u_M_hasA u_M_hasB u_M_talks u_M_big v_M_size v1.2.1 v1.2.2.1 v1.2.2.2.1 v1.2.2.2.2 a_M_read a_M_text)) rfl (st1 := [.int v1.1]) rfl (fun H locs hP hD hS => ?_)
    refine lv_if_ne (tgt := 23) hx hb dX11_takesPerson_18 (by decide) (fun h18 => ?_) (fun h18 => ?_)
    · have hg := zn hg h18
      refine lv_aload_n hx hb dX11_takesPerson_23 rfl (lv_at hl 1 rfl) ?_
      refine zget (C := RX11) (T := TX11) (N := 31) S hK hP 0 rfl rfl 15 (Nat.le_of_ble_eq_true rfl) zf_11 zw_157 rfl dX11_takesPerson_24 ?_
      refine lv_bipush (v := 13) hx hb dX11_takesPerson_27 (by decide) ?_
      refine lv_iload_n hx hb dX11_takesPerson_29 rfl (lv_at hl 0 rfl) ?_
      refine lv_iadd hx hb dX11_takesPerson_30 ?_
      refine lv_aload_n hx hb dX11_takesPerson_31 rfl (lv_at hl 1 rfl) ?_
      refine zget (C := RX11) (T := TX11) (N := 31) S hK hP 0 rfl rfl 14 (Nat.le_of_ble_eq_true rfl) zf_11 zw_456 rfl dX11_takesPerson_32 ?_
      refine lv_l2i hx hb dX11_takesPerson_35 rfl ?_
      obtain ⟨h3, hg⟩ := zck hg
      refine ziast hx hb hK hP hD hS 1 0 rfl rfl (j := ((13 + (a_M_read 3)).toNatClampNeg)) h3 rfl dX11_takesPerson_36 (w2 := (ws_X11_takesPerson cI cJ cZ cA q_M q_M_read q_M_text u_M_now u_M_images u_M_kept u_M_sign u_M_manyAbove u_M_manyBelow u_M_above u_M_below u_M_refused u_M_acts u_M_act u_M_waits u_M_wait u_M_held u_M_place u_M_heap u_M_clocks u_M_counts u_M_talking u_M_most u_M_hasA u_M_hasB u_M_talks u_M_big v_M_size v1.2.1 v1.2.2.1 v1.2.2.2.1 v1.2.2.2.2 (upd a_M_read ((13 + (a_M_read 3)).toNatClampNeg) v1.2.2.2.2.toInt32) a_M_text)) rfl (fun H locs hP hD hS => ?_)
      refine lv_aload_n hx hb dX11_takesPerson_37 rfl (lv_at hl 1 rfl) ?_
      refine lv_iconst (v := 0) hx hb dX11_takesPerson_38 (by decide) ?_
      refine lv_iconst (v := 1) hx hb dX11_takesPerson_39 (by decide) ?_
      obtain ⟨v4, hc5, hg⟩ := zbd hg
      refine zcallV (rest := []) S (c_X11_takes l D cI cJ cZ cA ga q_M q_M_text u_M_now u_M_images u_M_kept u_M_sign u_M_manyAbove u_M_manyBelow u_M_above u_M_below u_M_refused (.ref q_M_read) u_M_acts u_M_act u_M_waits u_M_wait u_M_held u_M_place u_M_heap u_M_clocks u_M_counts u_M_talking u_M_most u_M_hasA u_M_hasB u_M_talks u_M_big v_M_size v1.2.1 v1.2.2.1 v1.2.2.2.1 v1.2.2.2.2 a_M_text 0 1 v4 hc5) (zgV zw_487 zw_488 zw_489 zw_5 zw_490) rfl hd_X11_takes ⟨rfl, rfl⟩ ⟨Nat.le_of_ble_eq_true rfl, Nat.le_of_ble_eq_true rfl⟩ 0 11 rfl rfl rfl hl.1 rfl (Nat.le_of_ble_eq_true rfl) dX11_takesPerson_40 hP hD hS hA hK hG (isC := [0, 2]) rfl rfl rfl (w2 := (ws_X11_takesPerson cI cJ cZ cA q_M q_M_read q_M_text u_M_now u_M_images u_M_kept u_M_sign u_M_manyAbove u_M_manyBelow u_M_above u_M_below u_M_refused u_M_acts u_M_act u_M_waits u_M_wait u_M_held u_M_place u_M_heap u_M_clocks u_M_counts u_M_talking u_M_most u_M_hasA u_M_hasB u_M_talks u_M_big v_M_size v4.2.1 v4.2.2.1 v4.2.2.2.1 v4.2.2.2.2 (upd a_M_read ((13 + (a_M_read 3)).toNatClampNeg) v1.2.2.2.2.toInt32) a_M_text)) rfl (st1 := [.int v4.1]) rfl (fun H locs hP hD hS => ?_)
      refine lv_if_ne (tgt := 48) hx hb dX11_takesPerson_43 (by decide) (fun h43 => ?_) (fun h43 => ?_)
      · have hg := zn hg h43
        refine lv_aload_n hx hb dX11_takesPerson_48 rfl (lv_at hl 1 rfl) ?_
        refine zget (C := RX11) (T := TX11) (N := 31) S hK hP 0 rfl rfl 15 (Nat.le_of_ble_eq_true rfl) zf_11 zw_157 rfl dX11_takesPerson_49 ?_
        refine lv_bipush (v := 18) hx hb dX11_takesPerson_52 (by decide) ?_
        refine lv_iload_n hx hb dX11_takesPerson_54 rfl (lv_at hl 0 rfl) ?_
        refine lv_iadd hx hb dX11_takesPerson_55 ?_
        refine lv_aload_n hx hb dX11_takesPerson_56 rfl (lv_at hl 1 rfl) ?_
        refine zget (C := RX11) (T := TX11) (N := 31) S hK hP 0 rfl rfl 14 (Nat.le_of_ble_eq_true rfl) zf_11 zw_456 rfl dX11_takesPerson_57 ?_
        refine lv_l2i hx hb dX11_takesPerson_60 rfl ?_
        obtain ⟨h6, hg⟩ := zck hg
        refine ziast hx hb hK hP hD hS 1 0 rfl rfl (j := ((18 + (a_M_read 3)).toNatClampNeg)) h6 rfl dX11_takesPerson_61 (w2 := (ws_X11_takesPerson cI cJ cZ cA q_M q_M_read q_M_text u_M_now u_M_images u_M_kept u_M_sign u_M_manyAbove u_M_manyBelow u_M_above u_M_below u_M_refused u_M_acts u_M_act u_M_waits u_M_wait u_M_held u_M_place u_M_heap u_M_clocks u_M_counts u_M_talking u_M_most u_M_hasA u_M_hasB u_M_talks u_M_big v_M_size v4.2.1 v4.2.2.1 v4.2.2.2.1 v4.2.2.2.2 (upd (upd a_M_read ((13 + (a_M_read 3)).toNatClampNeg) v1.2.2.2.2.toInt32) ((18 + (a_M_read 3)).toNatClampNeg) v4.2.2.2.2.toInt32) a_M_text)) rfl (fun H locs hP hD hS => ?_)
        refine lv_aload_n hx hb dX11_takesPerson_62 rfl (lv_at hl 1 rfl) ?_
        refine zget (C := RX11) (T := TX11) (N := 31) S hK hP 0 rfl rfl 15 (Nat.le_of_ble_eq_true rfl) zf_11 zw_157 rfl dX11_takesPerson_63 ?_
        refine lv_iconst (v := 3) hx hb dX11_takesPerson_66 (by decide) ?_
        refine lv_dup2_11 hx hb dX11_takesPerson_67 rfl rfl ?_
        refine ziald hx hb hK hP 1 0 rfl rfl (j := 3) (zin (by decide)) (by decide) dX11_takesPerson_68 ?_
        refine lv_iconst (v := 1) hx hb dX11_takesPerson_69 (by decide) ?_
        refine lv_iadd hx hb dX11_takesPerson_70 ?_
        refine ziast hx hb hK hP hD hS 1 0 rfl rfl (j := 3) (zin (by decide)) (by decide) dX11_takesPerson_71 (w2 := (ws_X11_takesPerson cI cJ cZ cA q_M q_M_read q_M_text u_M_now u_M_images u_M_kept u_M_sign u_M_manyAbove u_M_manyBelow u_M_above u_M_below u_M_refused u_M_acts u_M_act u_M_waits u_M_wait u_M_held u_M_place u_M_heap u_M_clocks u_M_counts u_M_talking u_M_most u_M_hasA u_M_hasB u_M_talks u_M_big v_M_size v4.2.1 v4.2.2.1 v4.2.2.2.1 v4.2.2.2.2 (upd (upd (upd a_M_read ((13 + (a_M_read 3)).toNatClampNeg) v1.2.2.2.2.toInt32) ((18 + (a_M_read 3)).toNatClampNeg) v4.2.2.2.2.toInt32) 3 (((upd (upd a_M_read ((13 + (a_M_read 3)).toNatClampNeg) v1.2.2.2.2.toInt32) ((18 + (a_M_read 3)).toNatClampNeg) v4.2.2.2.2.toInt32) 3) + 1)) a_M_text)) rfl (fun H locs hP hD hS => ?_)
        refine lv_aload_n hx hb dX11_takesPerson_72 rfl (lv_at hl 1 rfl) ?_
        obtain ⟨v7, hc8, hg⟩ := zbd hg
        refine zcallV (rest := []) S (c_X11_stops l D cI cJ cZ cA ga q_M q_M_text u_M_now u_M_images u_M_kept u_M_sign u_M_manyAbove u_M_manyBelow u_M_above u_M_below u_M_refused (.ref q_M_read) u_M_acts u_M_act u_M_waits u_M_wait u_M_held u_M_place u_M_heap u_M_clocks u_M_counts u_M_talking u_M_most u_M_hasA u_M_hasB u_M_talks u_M_big v_M_size v4.2.1 v4.2.2.1 v4.2.2.2.1 v4.2.2.2.2 a_M_text v7 hc8) (zgV zw_491 zw_492 zw_493 zw_5 zw_494) rfl hd_X11_stops ⟨rfl, rfl⟩ ⟨Nat.le_of_ble_eq_true rfl, Nat.le_of_ble_eq_true rfl⟩ 0 11 rfl rfl rfl hl.1 rfl (Nat.le_of_ble_eq_true rfl) dX11_takesPerson_73 hP hD hS hA hK hG (isC := [0, 2]) rfl rfl rfl (w2 := (ws_X11_takesPerson cI cJ cZ cA q_M q_M_read q_M_text u_M_now u_M_images u_M_kept u_M_sign u_M_manyAbove u_M_manyBelow u_M_above u_M_below u_M_refused u_M_acts u_M_act u_M_waits u_M_wait u_M_held u_M_place u_M_heap u_M_clocks u_M_counts u_M_talking u_M_most u_M_hasA u_M_hasB u_M_talks u_M_big v_M_size v7.2.1 v7.2.2.1 v7.2.2.2.1 v7.2.2.2.2 (upd (upd (upd a_M_read ((13 + (a_M_read 3)).toNatClampNeg) v1.2.2.2.2.toInt32) ((18 + (a_M_read 3)).toNatClampNeg) v4.2.2.2.2.toInt32) 3 (((upd (upd a_M_read ((13 + (a_M_read 3)).toNatClampNeg) v1.2.2.2.2.toInt32) ((18 + (a_M_read 3)).toNatClampNeg) v4.2.2.2.2.toInt32) 3) + 1)) a_M_text)) rfl (st1 := [.int v7.1]) rfl (fun H locs hP hD hS => ?_)
        obtain ⟨hz01, hg⟩ := zck2 hg
        exact hret v7.1 v7.2.1 v7.2.2.1 v7.2.2.2.1 v7.2.2.2.2 (upd (upd (upd a_M_read ((13 + (a_M_read 3)).toNatClampNeg) v1.2.2.2.2.toInt32) ((18 + (a_M_read 3)).toNatClampNeg) v4.2.2.2.2.toInt32) 3 (((upd (upd a_M_read ((13 + (a_M_read 3)).toNatClampNeg) v1.2.2.2.2.toInt32) ((18 + (a_M_read 3)).toNatClampNeg) v4.2.2.2.2.toInt32) 3) + 1)) hg (zb01 hz01) _ _ _ _ hP hS dX11_takesPerson_76
      · have hg := zp hg h43
        refine lv_iconst (v := 0) hx hb dX11_takesPerson_46 (by decide) ?_
        exact hret 0 v4.2.1 v4.2.2.1 v4.2.2.2.1 v4.2.2.2.2 (upd a_M_read ((13 + (a_M_read 3)).toNatClampNeg) v1.2.2.2.2.toInt32) hg (zb01 (Or.inl rfl)) _ _ _ _ hP hS dX11_takesPerson_47
    · have hg := zp hg h18
      refine lv_iconst (v := 0) hx hb dX11_takesPerson_21 (by decide) ?_
      exact hret 0 v1.2.1 v1.2.2.1 v1.2.2.2.1 v1.2.2.2.2 a_M_read hg (zb01 (Or.inl rfl)) _ _ _ _ hP hS dX11_takesPerson_22

/-! SpokenClockModel.takesTalk()Z -/
abbrev ws_X11_takesTalk (cI cJ cZ cA : ClassId) (q_M q_M_read q_M_text : Nat) (u_M_now : Value) (u_M_images : Value) (u_M_kept : Value) (u_M_sign : Value) (u_M_manyAbove : Value) (u_M_manyBelow : Value) (u_M_above : Value) (u_M_below : Value) (u_M_refused : Value) (u_M_acts : Value) (u_M_act : Value) (u_M_waits : Value) (u_M_wait : Value) (u_M_held : Value) (u_M_place : Value) (u_M_heap : Value) (u_M_clocks : Value) (u_M_counts : Value) (u_M_talking : Value) (u_M_most : Value) (u_M_hasA : Value) (u_M_hasB : Value) (u_M_talks : Value) (u_M_big : Value) (v_M_size : Int32) (v_M_at : Int32) (v_M_begin : Int32) (v_M_kind : Int32) (v_M_value : Int64) (a_M_read : Nat → Int32) (a_M_text : Nat → Int32) : va_W := [(q_M, .inr (11, [u_M_now, u_M_images, u_M_kept, .ref q_M_text, .int v_M_size, u_M_sign, u_M_manyAbove, u_M_manyBelow, u_M_above, u_M_below, u_M_refused, .int v_M_at, .int v_M_begin, .int v_M_kind, .long v_M_value, .ref q_M_read, u_M_acts, u_M_act, u_M_waits, u_M_wait, u_M_held, u_M_place, u_M_heap, u_M_clocks, u_M_counts, u_M_talking, u_M_most, u_M_hasA, u_M_hasB, u_M_talks, u_M_big])), (q_M_read, .inl (cI, 155, .inl a_M_read)), (q_M_text, .inl (cI, 250, .inl a_M_text))]
abbrev rm_X11_takesTalk : Room := { frames := 4, cells := 0, slots := 0, locals := 88 }
def g_X11_takesTalk (v_M_size : Int32) (a_M_text : Nat → Int32) (v_M_at : Int32) (v_M_begin : Int32) (v_M_kind : Int32) (v_M_value : Int64) (a_M_read : Nat → Int32) : Option (Int32 × Int32 × Int32 × Int32 × Int64 × (Nat → Int32)) :=
  if (a_M_read 4) = 16 then (
    some (0, v_M_at, v_M_begin, v_M_kind, v_M_value, a_M_read)
  ) else (
    (g_X11_takes v_M_size a_M_text 0 ((a_M_read 3) - 1) v_M_at v_M_begin v_M_kind v_M_value).bind fun v1 =>
    if v1.1 = 0 then (
      some (0, v1.2.1, v1.2.2.1, v1.2.2.2.1, v1.2.2.2.2, a_M_read)
    ) else (
      if (23 + (a_M_read 4)) < 0 ∨ 155 ≤ (23 + (a_M_read 4)).toNatClampNeg then none else
      (g_X11_takes v_M_size a_M_text 0 239 v1.2.1 v1.2.2.1 v1.2.2.2.1 v1.2.2.2.2).bind fun v4 =>
      if v4.1 = 0 then (
        some (0, v4.2.1, v4.2.2.1, v4.2.2.2.1, v4.2.2.2.2, upd a_M_read ((23 + (a_M_read 4)).toNatClampNeg) v1.2.2.2.2.toInt32)
      ) else (
        if (39 + (a_M_read 4)) < 0 ∨ 155 ≤ (39 + (a_M_read 4)).toNatClampNeg then none else
        (g_X11_takes v_M_size a_M_text (v4.2.2.2.2.toInt32 + 1) 240 v4.2.1 v4.2.2.1 v4.2.2.2.1 v4.2.2.2.2).bind fun v7 =>
        if v7.1 = 0 then (
          some (0, v7.2.1, v7.2.2.1, v7.2.2.2.1, v7.2.2.2.2, upd (upd a_M_read ((23 + (a_M_read 4)).toNatClampNeg) v1.2.2.2.2.toInt32) ((39 + (a_M_read 4)).toNatClampNeg) v4.2.2.2.2.toInt32)
        ) else (
          if (55 + (a_M_read 4)) < 0 ∨ 155 ≤ (55 + (a_M_read 4)).toNatClampNeg then none else
          (g_X11_stops v_M_size a_M_text v7.2.1 v7.2.2.1 v7.2.2.2.1 v7.2.2.2.2).bind fun v10 =>
          if v10.1 = 0 ∨ v10.1 = 1 then
            some (v10.1, v10.2.1, v10.2.2.1, v10.2.2.2.1, v10.2.2.2.2, upd (upd (upd (upd a_M_read ((23 + (a_M_read 4)).toNatClampNeg) v1.2.2.2.2.toInt32) ((39 + (a_M_read 4)).toNatClampNeg) v4.2.2.2.2.toInt32) ((55 + (a_M_read 4)).toNatClampNeg) v7.2.2.2.2.toInt32) 4 (((upd (upd (upd a_M_read ((23 + (a_M_read 4)).toNatClampNeg) v1.2.2.2.2.toInt32) ((39 + (a_M_read 4)).toNatClampNeg) v4.2.2.2.2.toInt32) ((55 + (a_M_read 4)).toNatClampNeg) v7.2.2.2.2.toInt32) 4) + 1))
          else none
        )
      )
    )
  )
theorem hd_X11_takesTalk : yX11_takesTalk.cls = RX11 ∧ yX11_takesTalk.cls ≠ "java/lang/invoke/MethodHandle" ∧ yX11_takesTalk.cls ≠ "java/lang/invoke/VarHandle" ∧ (parseMethodDescriptor yX11_takesTalk.desc).map (fun d => d.parameters.length) = some 0 := by decide +kernel
set_option maxHeartbeats 4000000 in
set_option maxRecDepth 100000 in
theorem c_X11_takesTalk (l : Launch) (D : va_G) (cI cJ cZ cA : ClassId) (ga : Nat → Nat) (q_M q_M_read q_M_text : Nat) (u_M_now : Value) (u_M_images : Value) (u_M_kept : Value) (u_M_sign : Value) (u_M_manyAbove : Value) (u_M_manyBelow : Value) (u_M_above : Value) (u_M_below : Value) (u_M_refused : Value) (u_M_acts : Value) (u_M_act : Value) (u_M_waits : Value) (u_M_wait : Value) (u_M_held : Value) (u_M_place : Value) (u_M_heap : Value) (u_M_clocks : Value) (u_M_counts : Value) (u_M_talking : Value) (u_M_most : Value) (u_M_hasA : Value) (u_M_hasB : Value) (u_M_talks : Value) (u_M_big : Value) (v_M_size : Int32) (v_M_at : Int32) (v_M_begin : Int32) (v_M_kind : Int32) (v_M_value : Int64) (a_M_read : Nat → Int32) (a_M_text : Nat → Int32) (o : Int32 × Int32 × Int32 × Int32 × Int64 × (Nat → Int32)) (hg : g_X11_takesTalk v_M_size a_M_text v_M_at v_M_begin v_M_kind v_M_value a_M_read = some o) : zM l yX11_takesTalk (Cond.code yX11_takesTalk cX11_takesTalk 2 (some .boolean) :: wsL_law) rm_X11_takesTalk D (zTy cI cJ cZ cA) ga [.ref q_M] (ws_X11_takesTalk cI cJ cZ cA q_M q_M_read q_M_text u_M_now u_M_images u_M_kept u_M_sign u_M_manyAbove u_M_manyBelow u_M_above u_M_below u_M_refused u_M_acts u_M_act u_M_waits u_M_wait u_M_held u_M_place u_M_heap u_M_clocks u_M_counts u_M_talking u_M_most u_M_hasA u_M_hasB u_M_talks u_M_big v_M_size v_M_at v_M_begin v_M_kind v_M_value a_M_read a_M_text) (ws_X11_takesTalk cI cJ cZ cA q_M q_M_read q_M_text u_M_now u_M_images u_M_kept u_M_sign u_M_manyAbove u_M_manyBelow u_M_above u_M_below u_M_refused u_M_acts u_M_act u_M_waits u_M_wait u_M_held u_M_place u_M_heap u_M_clocks u_M_counts u_M_talking u_M_most u_M_hasA u_M_hasB u_M_talks u_M_big v_M_size o.2.1 o.2.2.1 o.2.2.2.1 o.2.2.2.2.1 o.2.2.2.2.2 a_M_text) (some (.int o.1)) := by
  refine zenterN (own := RX11) (by decide) rfl rfl (Nat.le_of_ble_eq_true rfl) ?_
  intro p e s m args below meth c A ls Q S hA hK hG hl hP hD hS hret0
  have hx := S.1
  have hb := S.2.1
  have ht : ∀ w, w ∈ wsL_law → w.before args s = true := fun w h => S.2.2.2.2 w (List.mem_cons_of_mem _ h)
  have hret : ∀ (r9 : Int32) (v_M_at : Int32) (v_M_begin : Int32) (v_M_kind : Int32) (v_M_value : Int64) (a_M_read : Nat → Int32), (some (r9, v_M_at, v_M_begin, v_M_kind, v_M_value, a_M_read) : Option (Int32 × Int32 × Int32 × Int32 × Int64 × (Nat → Int32))) = some o → narrow .boolean (.int r9) = .int r9 → ∀ (H : Heap) (locs : List Loc) (pc : Nat) (ls : Array Slot), va_P D vwCl (ws_X11_takesTalk cI cJ cZ cA q_M q_M_read q_M_text u_M_now u_M_images u_M_kept u_M_sign u_M_manyAbove u_M_manyBelow u_M_above u_M_below u_M_refused u_M_acts u_M_act u_M_waits u_M_wait u_M_held u_M_place u_M_heap u_M_clocks u_M_counts u_M_talking u_M_most u_M_hasA u_M_hasB u_M_talks u_M_big v_M_size v_M_at v_M_begin v_M_kind v_M_value a_M_read a_M_text) H → va_S A s.heap H locs → decode cX11_takesTalk pc = .ok (.ireturn, 1) → W p l e rm_X11_takesTalk s m args below meth c H locs 0 0 Q (F0 m pc ls [.int r9]) := by
    intro r9 v_M_at v_M_begin v_M_kind v_M_value a_M_read he; cases he; exact hret0
  have hl : lv_has ls 2 [(0, .ref q_M)] := hl
  refine lv_aload_n hx hb dX11_takesTalk_0 rfl (lv_at hl 0 rfl) ?_
  refine zget (C := RX11) (T := TX11) (N := 31) S hK hP 0 rfl rfl 15 (Nat.le_of_ble_eq_true rfl) zf_11 zw_157 rfl dX11_takesTalk_1 ?_
  refine lv_iconst (v := 4) hx hb dX11_takesTalk_4 (by decide) ?_
  refine ziald hx hb hK hP 1 0 rfl rfl (j := 4) (zin (by decide)) (by decide) dX11_takesTalk_5 ?_
  refine lv_istore_n (lv' := [(1, .int (a_M_read 4)), (0, .ref q_M)]) hx hb dX11_takesTalk_6 rfl hl (by decide) rfl (fun ls hl => ?_)
  refine lv_iload_n hx hb dX11_takesTalk_7 rfl (lv_at hl 0 rfl) ?_
  refine lv_bipush (v := 16) hx hb dX11_takesTalk_8 (by decide) ?_
  refine lv_icmp_eq (tgt := 29) hx hb dX11_takesTalk_10 (by decide) (fun h10 => ?_) (fun h10 => ?_)
  · have hg := zp hg h10
    refine lv_iconst (v := 0) hx hb dX11_takesTalk_29 (by decide) ?_
    exact hret 0 v_M_at v_M_begin v_M_kind v_M_value a_M_read hg (zb01 (Or.inl rfl)) _ _ _ _ hP hS dX11_takesTalk_30
  · have hg := zn hg h10
    refine lv_aload_n hx hb dX11_takesTalk_13 rfl (lv_at hl 1 rfl) ?_
    refine lv_iconst (v := 0) hx hb dX11_takesTalk_14 (by decide) ?_
    refine lv_aload_n hx hb dX11_takesTalk_15 rfl (lv_at hl 1 rfl) ?_
    refine zget (C := RX11) (T := TX11) (N := 31) S hK hP 0 rfl rfl 15 (Nat.le_of_ble_eq_true rfl) zf_11 zw_157 rfl dX11_takesTalk_16 ?_
    refine lv_iconst (v := 3) hx hb dX11_takesTalk_19 (by decide) ?_
    refine ziald hx hb hK hP 1 0 rfl rfl (j := 3) (zin (by decide)) (by decide) dX11_takesTalk_20 ?_
    refine lv_iconst (v := 1) hx hb dX11_takesTalk_21 (by decide) ?_
    refine lv_isub hx hb dX11_takesTalk_22 ?_
    obtain ⟨v1, hc2, hg⟩ := zbd hg
    refine zcallV (rest := []) S (c_X11_takes l D cI cJ cZ cA ga q_M q_M_text u_M_now u_M_images u_M_kept u_M_sign u_M_manyAbove u_M_manyBelow u_M_above u_M_below u_M_refused (.ref q_M_read) u_M_acts u_M_act u_M_waits u_M_wait u_M_held u_M_place u_M_heap u_M_clocks u_M_counts u_M_talking u_M_most u_M_hasA u_M_hasB u_M_talks u_M_big v_M_size v_M_at v_M_begin v_M_kind v_M_value a_M_text 0 ((a_M_read 3) - 1) v1 hc2) (zgV zw_487 zw_488 zw_489 zw_5 zw_490) rfl hd_X11_takes ⟨rfl, rfl⟩ ⟨Nat.le_of_ble_eq_true rfl, Nat.le_of_ble_eq_true rfl⟩ 0 11 rfl rfl rfl hl.1 rfl (Nat.le_of_ble_eq_true rfl) dX11_takesTalk_23 hP hD hS hA hK hG (isC := [0, 2]) rfl rfl rfl (w2 := (ws_X11_takesTalk cI cJ cZ cA q_M q_M_read q_M_text u_M_now u_M_images u_M_kept u_M_sign u_M_manyAbove u_M_manyBelow u_M_above u_M_below u_M_refused u_M_acts u_M_act u_M_waits u_M_wait u_M_held u_M_place u_M_heap u_M_clocks u_M_counts u_M_talking u_M_most u_M_hasA u_M_hasB u_M_talks u_M_big v_M_size v1.2.1 v1.2.2.1 v1.2.2.2.1 v1.2.2.2.2 a_M_read a_M_text)) rfl (st1 := [.int v1.1]) rfl (fun H locs hP hD hS => ?_)
    refine lv_if_ne (tgt := 31) hx hb dX11_takesTalk_26 (by decide) (fun h26 => ?_) (fun h26 => ?_)
    · have hg := zn hg h26
      refine lv_aload_n hx hb dX11_takesTalk_31 rfl (lv_at hl 1 rfl) ?_
      refine zget (C := RX11) (T := TX11) (N := 31) S hK hP 0 rfl rfl 15 (Nat.le_of_ble_eq_true rfl) zf_11 zw_157 rfl dX11_takesTalk_32 ?_
      refine lv_bipush (v := 23) hx hb dX11_takesTalk_35 (by decide) ?_
      refine lv_iload_n hx hb dX11_takesTalk_37 rfl (lv_at hl 0 rfl) ?_
      refine lv_iadd hx hb dX11_takesTalk_38 ?_
      refine lv_aload_n hx hb dX11_takesTalk_39 rfl (lv_at hl 1 rfl) ?_
      refine zget (C := RX11) (T := TX11) (N := 31) S hK hP 0 rfl rfl 14 (Nat.le_of_ble_eq_true rfl) zf_11 zw_456 rfl dX11_takesTalk_40 ?_
      refine lv_l2i hx hb dX11_takesTalk_43 rfl ?_
      obtain ⟨h3, hg⟩ := zck hg
      refine ziast hx hb hK hP hD hS 1 0 rfl rfl (j := ((23 + (a_M_read 4)).toNatClampNeg)) h3 rfl dX11_takesTalk_44 (w2 := (ws_X11_takesTalk cI cJ cZ cA q_M q_M_read q_M_text u_M_now u_M_images u_M_kept u_M_sign u_M_manyAbove u_M_manyBelow u_M_above u_M_below u_M_refused u_M_acts u_M_act u_M_waits u_M_wait u_M_held u_M_place u_M_heap u_M_clocks u_M_counts u_M_talking u_M_most u_M_hasA u_M_hasB u_M_talks u_M_big v_M_size v1.2.1 v1.2.2.1 v1.2.2.2.1 v1.2.2.2.2 (upd a_M_read ((23 + (a_M_read 4)).toNatClampNeg) v1.2.2.2.2.toInt32) a_M_text)) rfl (fun H locs hP hD hS => ?_)
      refine lv_aload_n hx hb dX11_takesTalk_45 rfl (lv_at hl 1 rfl) ?_
      refine lv_iconst (v := 0) hx hb dX11_takesTalk_46 (by decide) ?_
      refine lv_sipush (v := 239) hx hb dX11_takesTalk_47 (by decide) ?_
      obtain ⟨v4, hc5, hg⟩ := zbd hg
      refine zcallV (rest := []) S (c_X11_takes l D cI cJ cZ cA ga q_M q_M_text u_M_now u_M_images u_M_kept u_M_sign u_M_manyAbove u_M_manyBelow u_M_above u_M_below u_M_refused (.ref q_M_read) u_M_acts u_M_act u_M_waits u_M_wait u_M_held u_M_place u_M_heap u_M_clocks u_M_counts u_M_talking u_M_most u_M_hasA u_M_hasB u_M_talks u_M_big v_M_size v1.2.1 v1.2.2.1 v1.2.2.2.1 v1.2.2.2.2 a_M_text 0 239 v4 hc5) (zgV zw_487 zw_488 zw_489 zw_5 zw_490) rfl hd_X11_takes ⟨rfl, rfl⟩ ⟨Nat.le_of_ble_eq_true rfl, Nat.le_of_ble_eq_true rfl⟩ 0 11 rfl rfl rfl hl.1 rfl (Nat.le_of_ble_eq_true rfl) dX11_takesTalk_50 hP hD hS hA hK hG (isC := [0, 2]) rfl rfl rfl (w2 := (ws_X11_takesTalk cI cJ cZ cA q_M q_M_read q_M_text u_M_now u_M_images u_M_kept u_M_sign u_M_manyAbove u_M_manyBelow u_M_above u_M_below u_M_refused u_M_acts u_M_act u_M_waits u_M_wait u_M_held u_M_place u_M_heap u_M_clocks u_M_counts u_M_talking u_M_most u_M_hasA u_M_hasB u_M_talks u_M_big v_M_size v4.2.1 v4.2.2.1 v4.2.2.2.1 v4.2.2.2.2 (upd a_M_read ((23 + (a_M_read 4)).toNatClampNeg) v1.2.2.2.2.toInt32) a_M_text)) rfl (st1 := [.int v4.1]) rfl (fun H locs hP hD hS => ?_)
      refine lv_if_ne (tgt := 58) hx hb dX11_takesTalk_53 (by decide) (fun h53 => ?_) (fun h53 => ?_)
      · have hg := zn hg h53
        refine lv_aload_n hx hb dX11_takesTalk_58 rfl (lv_at hl 1 rfl) ?_
        refine zget (C := RX11) (T := TX11) (N := 31) S hK hP 0 rfl rfl 15 (Nat.le_of_ble_eq_true rfl) zf_11 zw_157 rfl dX11_takesTalk_59 ?_
        refine lv_bipush (v := 39) hx hb dX11_takesTalk_62 (by decide) ?_
        refine lv_iload_n hx hb dX11_takesTalk_64 rfl (lv_at hl 0 rfl) ?_
        refine lv_iadd hx hb dX11_takesTalk_65 ?_
        refine lv_aload_n hx hb dX11_takesTalk_66 rfl (lv_at hl 1 rfl) ?_
        refine zget (C := RX11) (T := TX11) (N := 31) S hK hP 0 rfl rfl 14 (Nat.le_of_ble_eq_true rfl) zf_11 zw_456 rfl dX11_takesTalk_67 ?_
        refine lv_l2i hx hb dX11_takesTalk_70 rfl ?_
        obtain ⟨h6, hg⟩ := zck hg
        refine ziast hx hb hK hP hD hS 1 0 rfl rfl (j := ((39 + (a_M_read 4)).toNatClampNeg)) h6 rfl dX11_takesTalk_71 (w2 := (ws_X11_takesTalk cI cJ cZ cA q_M q_M_read q_M_text u_M_now u_M_images u_M_kept u_M_sign u_M_manyAbove u_M_manyBelow u_M_above u_M_below u_M_refused u_M_acts u_M_act u_M_waits u_M_wait u_M_held u_M_place u_M_heap u_M_clocks u_M_counts u_M_talking u_M_most u_M_hasA u_M_hasB u_M_talks u_M_big v_M_size v4.2.1 v4.2.2.1 v4.2.2.2.1 v4.2.2.2.2 (upd (upd a_M_read ((23 + (a_M_read 4)).toNatClampNeg) v1.2.2.2.2.toInt32) ((39 + (a_M_read 4)).toNatClampNeg) v4.2.2.2.2.toInt32) a_M_text)) rfl (fun H locs hP hD hS => ?_)
        refine lv_aload_n hx hb dX11_takesTalk_72 rfl (lv_at hl 1 rfl) ?_
        refine lv_aload_n hx hb dX11_takesTalk_73 rfl (lv_at hl 1 rfl) ?_
        refine zget (C := RX11) (T := TX11) (N := 31) S hK hP 0 rfl rfl 14 (Nat.le_of_ble_eq_true rfl) zf_11 zw_456 rfl dX11_takesTalk_74 ?_
        refine lv_l2i hx hb dX11_takesTalk_77 rfl ?_
        refine lv_iconst (v := 1) hx hb dX11_takesTalk_78 (by decide) ?_
        refine lv_iadd hx hb dX11_takesTalk_79 ?_
        refine lv_sipush (v := 240) hx hb dX11_takesTalk_80 (by decide) ?_
        obtain ⟨v7, hc8, hg⟩ := zbd hg
        refine zcallV (rest := []) S (c_X11_takes l D cI cJ cZ cA ga q_M q_M_text u_M_now u_M_images u_M_kept u_M_sign u_M_manyAbove u_M_manyBelow u_M_above u_M_below u_M_refused (.ref q_M_read) u_M_acts u_M_act u_M_waits u_M_wait u_M_held u_M_place u_M_heap u_M_clocks u_M_counts u_M_talking u_M_most u_M_hasA u_M_hasB u_M_talks u_M_big v_M_size v4.2.1 v4.2.2.1 v4.2.2.2.1 v4.2.2.2.2 a_M_text (v4.2.2.2.2.toInt32 + 1) 240 v7 hc8) (zgV zw_487 zw_488 zw_489 zw_5 zw_490) rfl hd_X11_takes ⟨rfl, rfl⟩ ⟨Nat.le_of_ble_eq_true rfl, Nat.le_of_ble_eq_true rfl⟩ 0 11 rfl rfl rfl hl.1 rfl (Nat.le_of_ble_eq_true rfl) dX11_takesTalk_83 hP hD hS hA hK hG (isC := [0, 2]) rfl rfl rfl (w2 := (ws_X11_takesTalk cI cJ cZ cA q_M q_M_read q_M_text u_M_now u_M_images u_M_kept u_M_sign u_M_manyAbove u_M_manyBelow u_M_above u_M_below u_M_refused u_M_acts u_M_act u_M_waits u_M_wait u_M_held u_M_place u_M_heap u_M_clocks u_M_counts u_M_talking u_M_most u_M_hasA u_M_hasB u_M_talks u_M_big v_M_size v7.2.1 v7.2.2.1 v7.2.2.2.1 v7.2.2.2.2 (upd (upd a_M_read ((23 + (a_M_read 4)).toNatClampNeg) v1.2.2.2.2.toInt32) ((39 + (a_M_read 4)).toNatClampNeg) v4.2.2.2.2.toInt32) a_M_text)) rfl (st1 := [.int v7.1]) rfl (fun H locs hP hD hS => ?_)
        refine lv_if_ne (tgt := 91) hx hb dX11_takesTalk_86 (by decide) (fun h86 => ?_) (fun h86 => ?_)
        · have hg := zn hg h86
          refine lv_aload_n hx hb dX11_takesTalk_91 rfl (lv_at hl 1 rfl) ?_
          refine zget (C := RX11) (T := TX11) (N := 31) S hK hP 0 rfl rfl 15 (Nat.le_of_ble_eq_true rfl) zf_11 zw_157 rfl dX11_takesTalk_92 ?_
          refine lv_bipush (v := 55) hx hb dX11_takesTalk_95 (by decide) ?_
          refine lv_iload_n hx hb dX11_takesTalk_97 rfl (lv_at hl 0 rfl) ?_
          refine lv_iadd hx hb dX11_takesTalk_98 ?_
          refine lv_aload_n hx hb dX11_takesTalk_99 rfl (lv_at hl 1 rfl) ?_
          refine zget (C := RX11) (T := TX11) (N := 31) S hK hP 0 rfl rfl 14 (Nat.le_of_ble_eq_true rfl) zf_11 zw_456 rfl dX11_takesTalk_100 ?_
          refine lv_l2i hx hb dX11_takesTalk_103 rfl ?_
          obtain ⟨h9, hg⟩ := zck hg
          refine ziast hx hb hK hP hD hS 1 0 rfl rfl (j := ((55 + (a_M_read 4)).toNatClampNeg)) h9 rfl dX11_takesTalk_104 (w2 := (ws_X11_takesTalk cI cJ cZ cA q_M q_M_read q_M_text u_M_now u_M_images u_M_kept u_M_sign u_M_manyAbove u_M_manyBelow u_M_above u_M_below u_M_refused u_M_acts u_M_act u_M_waits u_M_wait u_M_held u_M_place u_M_heap u_M_clocks u_M_counts u_M_talking u_M_most u_M_hasA u_M_hasB u_M_talks u_M_big v_M_size v7.2.1 v7.2.2.1 v7.2.2.2.1 v7.2.2.2.2 (upd (upd (upd a_M_read ((23 + (a_M_read 4)).toNatClampNeg) v1.2.2.2.2.toInt32) ((39 + (a_M_read 4)).toNatClampNeg) v4.2.2.2.2.toInt32) ((55 + (a_M_read 4)).toNatClampNeg) v7.2.2.2.2.toInt32) a_M_text)) rfl (fun H locs hP hD hS => ?_)
          refine lv_aload_n hx hb dX11_takesTalk_105 rfl (lv_at hl 1 rfl) ?_
          refine zget (C := RX11) (T := TX11) (N := 31) S hK hP 0 rfl rfl 15 (Nat.le_of_ble_eq_true rfl) zf_11 zw_157 rfl dX11_takesTalk_106 ?_
          refine lv_iconst (v := 4) hx hb dX11_takesTalk_109 (by decide) ?_
          refine lv_dup2_11 hx hb dX11_takesTalk_110 rfl rfl ?_
          refine ziald hx hb hK hP 1 0 rfl rfl (j := 4) (zin (by decide)) (by decide) dX11_takesTalk_111 ?_
          refine lv_iconst (v := 1) hx hb dX11_takesTalk_112 (by decide) ?_
          refine lv_iadd hx hb dX11_takesTalk_113 ?_
          refine ziast hx hb hK hP hD hS 1 0 rfl rfl (j := 4) (zin (by decide)) (by decide) dX11_takesTalk_114 (w2 := (ws_X11_takesTalk cI cJ cZ cA q_M q_M_read q_M_text u_M_now u_M_images u_M_kept u_M_sign u_M_manyAbove u_M_manyBelow u_M_above u_M_below u_M_refused u_M_acts u_M_act u_M_waits u_M_wait u_M_held u_M_place u_M_heap u_M_clocks u_M_counts u_M_talking u_M_most u_M_hasA u_M_hasB u_M_talks u_M_big v_M_size v7.2.1 v7.2.2.1 v7.2.2.2.1 v7.2.2.2.2 (upd (upd (upd (upd a_M_read ((23 + (a_M_read 4)).toNatClampNeg) v1.2.2.2.2.toInt32) ((39 + (a_M_read 4)).toNatClampNeg) v4.2.2.2.2.toInt32) ((55 + (a_M_read 4)).toNatClampNeg) v7.2.2.2.2.toInt32) 4 (((upd (upd (upd a_M_read ((23 + (a_M_read 4)).toNatClampNeg) v1.2.2.2.2.toInt32) ((39 + (a_M_read 4)).toNatClampNeg) v4.2.2.2.2.toInt32) ((55 + (a_M_read 4)).toNatClampNeg) v7.2.2.2.2.toInt32) 4) + 1)) a_M_text)) rfl (fun H locs hP hD hS => ?_)
          refine lv_aload_n hx hb dX11_takesTalk_115 rfl (lv_at hl 1 rfl) ?_
          obtain ⟨v10, hc11, hg⟩ := zbd hg
          refine zcallV (rest := []) S (c_X11_stops l D cI cJ cZ cA ga q_M q_M_text u_M_now u_M_images u_M_kept u_M_sign u_M_manyAbove u_M_manyBelow u_M_above u_M_below u_M_refused (.ref q_M_read) u_M_acts u_M_act u_M_waits u_M_wait u_M_held u_M_place u_M_heap u_M_clocks u_M_counts u_M_talking u_M_most u_M_hasA u_M_hasB u_M_talks u_M_big v_M_size v7.2.1 v7.2.2.1 v7.2.2.2.1 v7.2.2.2.2 a_M_text v10 hc11) (zgV zw_491 zw_492 zw_493 zw_5 zw_494) rfl hd_X11_stops ⟨rfl, rfl⟩ ⟨Nat.le_of_ble_eq_true rfl, Nat.le_of_ble_eq_true rfl⟩ 0 11 rfl rfl rfl hl.1 rfl (Nat.le_of_ble_eq_true rfl) dX11_takesTalk_116 hP hD hS hA hK hG (isC := [0, 2]) rfl rfl rfl (w2 := (ws_X11_takesTalk cI cJ cZ cA q_M q_M_read q_M_text u_M_now u_M_images u_M_kept u_M_sign u_M_manyAbove u_M_manyBelow u_M_above u_M_below u_M_refused u_M_acts u_M_act u_M_waits u_M_wait u_M_held u_M_place u_M_heap u_M_clocks u_M_counts u_M_talking u_M_most u_M_hasA u_M_hasB u_M_talks u_M_big v_M_size v10.2.1 v10.2.2.1 v10.2.2.2.1 v10.2.2.2.2 (upd (upd (upd (upd a_M_read ((23 + (a_M_read 4)).toNatClampNeg) v1.2.2.2.2.toInt32) ((39 + (a_M_read 4)).toNatClampNeg) v4.2.2.2.2.toInt32) ((55 + (a_M_read 4)).toNatClampNeg) v7.2.2.2.2.toInt32) 4 (((upd (upd (upd a_M_read ((23 + (a_M_read 4)).toNatClampNeg) v1.2.2.2.2.toInt32) ((39 + (a_M_read 4)).toNatClampNeg) v4.2.2.2.2.toInt32) ((55 + (a_M_read 4)).toNatClampNeg) v7.2.2.2.2.toInt32) 4) + 1)) a_M_text)) rfl (st1 := [.int v10.1]) rfl (fun H locs hP hD hS => ?_)
          obtain ⟨hz01, hg⟩ := zck2 hg
          exact hret v10.1 v10.2.1 v10.2.2.1 v10.2.2.2.1 v10.2.2.2.2 (upd (upd (upd (upd a_M_read ((23 + (a_M_read 4)).toNatClampNeg) v1.2.2.2.2.toInt32) ((39 + (a_M_read 4)).toNatClampNeg) v4.2.2.2.2.toInt32) ((55 + (a_M_read 4)).toNatClampNeg) v7.2.2.2.2.toInt32) 4 (((upd (upd (upd a_M_read ((23 + (a_M_read 4)).toNatClampNeg) v1.2.2.2.2.toInt32) ((39 + (a_M_read 4)).toNatClampNeg) v4.2.2.2.2.toInt32) ((55 + (a_M_read 4)).toNatClampNeg) v7.2.2.2.2.toInt32) 4) + 1)) hg (zb01 hz01) _ _ _ _ hP hS dX11_takesTalk_119
        · have hg := zp hg h86
          refine lv_iconst (v := 0) hx hb dX11_takesTalk_89 (by decide) ?_
          exact hret 0 v7.2.1 v7.2.2.1 v7.2.2.2.1 v7.2.2.2.2 (upd (upd a_M_read ((23 + (a_M_read 4)).toNatClampNeg) v1.2.2.2.2.toInt32) ((39 + (a_M_read 4)).toNatClampNeg) v4.2.2.2.2.toInt32) hg (zb01 (Or.inl rfl)) _ _ _ _ hP hS dX11_takesTalk_90
      · have hg := zp hg h53
        refine lv_iconst (v := 0) hx hb dX11_takesTalk_56 (by decide) ?_
        exact hret 0 v4.2.1 v4.2.2.1 v4.2.2.2.1 v4.2.2.2.2 (upd a_M_read ((23 + (a_M_read 4)).toNatClampNeg) v1.2.2.2.2.toInt32) hg (zb01 (Or.inl rfl)) _ _ _ _ hP hS dX11_takesTalk_57
    · have hg := zp hg h26
      refine lv_iconst (v := 0) hx hb dX11_takesTalk_29 (by decide) ?_
      exact hret 0 v1.2.1 v1.2.2.1 v1.2.2.2.1 v1.2.2.2.2 a_M_read hg (zb01 (Or.inl rfl)) _ _ _ _ hP hS dX11_takesTalk_30

/-! SpokenClockModel.takesDue()Z -/
abbrev ws_X11_takesDue (cI cJ cZ cA : ClassId) (q_M q_M_read q_M_text : Nat) (u_M_now : Value) (u_M_images : Value) (u_M_kept : Value) (u_M_sign : Value) (u_M_manyAbove : Value) (u_M_manyBelow : Value) (u_M_above : Value) (u_M_below : Value) (u_M_refused : Value) (u_M_acts : Value) (u_M_act : Value) (u_M_waits : Value) (u_M_wait : Value) (u_M_held : Value) (u_M_place : Value) (u_M_heap : Value) (u_M_clocks : Value) (u_M_counts : Value) (u_M_talking : Value) (u_M_most : Value) (u_M_hasA : Value) (u_M_hasB : Value) (u_M_talks : Value) (u_M_big : Value) (v_M_size : Int32) (v_M_at : Int32) (v_M_begin : Int32) (v_M_kind : Int32) (v_M_value : Int64) (a_M_read : Nat → Int32) (a_M_text : Nat → Int32) : va_W := [(q_M, .inr (11, [u_M_now, u_M_images, u_M_kept, .ref q_M_text, .int v_M_size, u_M_sign, u_M_manyAbove, u_M_manyBelow, u_M_above, u_M_below, u_M_refused, .int v_M_at, .int v_M_begin, .int v_M_kind, .long v_M_value, .ref q_M_read, u_M_acts, u_M_act, u_M_waits, u_M_wait, u_M_held, u_M_place, u_M_heap, u_M_clocks, u_M_counts, u_M_talking, u_M_most, u_M_hasA, u_M_hasB, u_M_talks, u_M_big])), (q_M_read, .inl (cI, 155, .inl a_M_read)), (q_M_text, .inl (cI, 250, .inl a_M_text))]
abbrev rm_X11_takesDue : Room := { frames := 4, cells := 0, slots := 0, locals := 88 }
def g_X11_takesDue_85 (v_M_size : Int32) (a_M_text : Nat → Int32) (x1 : Int32) (x2 : Int32) (v_M_at : Int32) (v_M_begin : Int32) (v_M_kind : Int32) (v_M_value : Int64) (a_M_read : Nat → Int32) : Option (Int32 × Int32 × Int32 × Int32 × Int64 × (Nat → Int32)) :=
  if v_M_kind = 2 then (
    (g_X11_in v_M_value (0 : Int64) (99 : Int64)).bind fun v9 =>
    if v9 = 0 then (
      some (0, v_M_at, v_M_begin, v_M_kind, v_M_value, a_M_read)
    ) else (
      if (87 + x1) < 0 ∨ 155 ≤ (87 + x1).toNatClampNeg then none else
      (g_X11_stops v_M_size a_M_text v_M_at v_M_begin v_M_kind v_M_value).bind fun v12 =>
      if v12.1 = 0 ∨ v12.1 = 1 then
        some (v12.1, v12.2.1, v12.2.2.1, v12.2.2.2.1, v12.2.2.2.2, upd (upd a_M_read ((87 + x1).toNatClampNeg) (x2 * v_M_value.toInt32)) 5 (((upd a_M_read ((87 + x1).toNatClampNeg) (x2 * v_M_value.toInt32)) 5) + 1))
      else none
    )
  ) else (
    some (0, v_M_at, v_M_begin, v_M_kind, v_M_value, a_M_read)
  )
def g_X11_takesDue (v_M_size : Int32) (a_M_text : Nat → Int32) (v_M_at : Int32) (v_M_begin : Int32) (v_M_kind : Int32) (v_M_value : Int64) (a_M_read : Nat → Int32) : Option (Int32 × Int32 × Int32 × Int32 × Int64 × (Nat → Int32)) :=
  if (a_M_read 5) = 8 then (
    some (0, v_M_at, v_M_begin, v_M_kind, v_M_value, a_M_read)
  ) else (
    (g_X11_takes v_M_size a_M_text 0 99 v_M_at v_M_begin v_M_kind v_M_value).bind fun v1 =>
    if v1.1 = 0 then (
      some (0, v1.2.1, v1.2.2.1, v1.2.2.2.1, v1.2.2.2.2, a_M_read)
    ) else (
      if (71 + (a_M_read 5)) < 0 ∨ 155 ≤ (71 + (a_M_read 5)).toNatClampNeg then none else
      (g_X11_takes v_M_size a_M_text 0 99 v1.2.1 v1.2.2.1 v1.2.2.2.1 v1.2.2.2.2).bind fun v4 =>
      if v4.1 = 0 then (
        some (0, v4.2.1, v4.2.2.1, v4.2.2.2.1, v4.2.2.2.2, upd a_M_read ((71 + (a_M_read 5)).toNatClampNeg) v1.2.2.2.2.toInt32)
      ) else (
        if (79 + (a_M_read 5)) < 0 ∨ 155 ≤ (79 + (a_M_read 5)).toNatClampNeg then none else
        (g_X11_next v_M_size a_M_text v4.2.1 v4.2.2.1 v4.2.2.2.1 v4.2.2.2.2).bind fun v7 =>
        if v7.2.2.1 = 3 then (
          (g_X11_next v_M_size a_M_text v7.1 v7.2.1 v7.2.2.1 v7.2.2.2).bind fun v14 =>
          g_X11_takesDue_85 v_M_size a_M_text (a_M_read 5) (-1) v14.1 v14.2.1 v14.2.2.1 v14.2.2.2 (upd (upd a_M_read ((71 + (a_M_read 5)).toNatClampNeg) v1.2.2.2.2.toInt32) ((79 + (a_M_read 5)).toNatClampNeg) v4.2.2.2.2.toInt32)
        ) else (
          g_X11_takesDue_85 v_M_size a_M_text (a_M_read 5) 1 v7.1 v7.2.1 v7.2.2.1 v7.2.2.2 (upd (upd a_M_read ((71 + (a_M_read 5)).toNatClampNeg) v1.2.2.2.2.toInt32) ((79 + (a_M_read 5)).toNatClampNeg) v4.2.2.2.2.toInt32)
        )
      )
    )
  )
theorem hd_X11_takesDue : yX11_takesDue.cls = RX11 ∧ yX11_takesDue.cls ≠ "java/lang/invoke/MethodHandle" ∧ yX11_takesDue.cls ≠ "java/lang/invoke/VarHandle" ∧ (parseMethodDescriptor yX11_takesDue.desc).map (fun d => d.parameters.length) = some 0 := by decide +kernel
set_option maxHeartbeats 4000000 in
set_option maxRecDepth 100000 in
theorem c_X11_takesDue (l : Launch) (D : va_G) (cI cJ cZ cA : ClassId) (ga : Nat → Nat) (q_M q_M_read q_M_text : Nat) (u_M_now : Value) (u_M_images : Value) (u_M_kept : Value) (u_M_sign : Value) (u_M_manyAbove : Value) (u_M_manyBelow : Value) (u_M_above : Value) (u_M_below : Value) (u_M_refused : Value) (u_M_acts : Value) (u_M_act : Value) (u_M_waits : Value) (u_M_wait : Value) (u_M_held : Value) (u_M_place : Value) (u_M_heap : Value) (u_M_clocks : Value) (u_M_counts : Value) (u_M_talking : Value) (u_M_most : Value) (u_M_hasA : Value) (u_M_hasB : Value) (u_M_talks : Value) (u_M_big : Value) (v_M_size : Int32) (v_M_at : Int32) (v_M_begin : Int32) (v_M_kind : Int32) (v_M_value : Int64) (a_M_read : Nat → Int32) (a_M_text : Nat → Int32) (o : Int32 × Int32 × Int32 × Int32 × Int64 × (Nat → Int32)) (hg : g_X11_takesDue v_M_size a_M_text v_M_at v_M_begin v_M_kind v_M_value a_M_read = some o) : zM l yX11_takesDue (Cond.code yX11_takesDue cX11_takesDue 3 (some .boolean) :: wsL_law) rm_X11_takesDue D (zTy cI cJ cZ cA) ga [.ref q_M] (ws_X11_takesDue cI cJ cZ cA q_M q_M_read q_M_text u_M_now u_M_images u_M_kept u_M_sign u_M_manyAbove u_M_manyBelow u_M_above u_M_below u_M_refused u_M_acts u_M_act u_M_waits u_M_wait u_M_held u_M_place u_M_heap u_M_clocks u_M_counts u_M_talking u_M_most u_M_hasA u_M_hasB u_M_talks u_M_big v_M_size v_M_at v_M_begin v_M_kind v_M_value a_M_read a_M_text) (ws_X11_takesDue cI cJ cZ cA q_M q_M_read q_M_text u_M_now u_M_images u_M_kept u_M_sign u_M_manyAbove u_M_manyBelow u_M_above u_M_below u_M_refused u_M_acts u_M_act u_M_waits u_M_wait u_M_held u_M_place u_M_heap u_M_clocks u_M_counts u_M_talking u_M_most u_M_hasA u_M_hasB u_M_talks u_M_big v_M_size o.2.1 o.2.2.1 o.2.2.2.1 o.2.2.2.2.1 o.2.2.2.2.2 a_M_text) (some (.int o.1)) := by
  refine zenterN (own := RX11) (by decide) rfl rfl (Nat.le_of_ble_eq_true rfl) ?_
  intro p e s m args below meth c A ls Q S hA hK hG hl hP hD hS hret0
  have hx := S.1
  have hb := S.2.1
  have ht : ∀ w, w ∈ wsL_law → w.before args s = true := fun w h => S.2.2.2.2 w (List.mem_cons_of_mem _ h)
  have hret : ∀ (r9 : Int32) (v_M_at : Int32) (v_M_begin : Int32) (v_M_kind : Int32) (v_M_value : Int64) (a_M_read : Nat → Int32), (some (r9, v_M_at, v_M_begin, v_M_kind, v_M_value, a_M_read) : Option (Int32 × Int32 × Int32 × Int32 × Int64 × (Nat → Int32))) = some o → narrow .boolean (.int r9) = .int r9 → ∀ (H : Heap) (locs : List Loc) (pc : Nat) (ls : Array Slot), va_P D vwCl (ws_X11_takesDue cI cJ cZ cA q_M q_M_read q_M_text u_M_now u_M_images u_M_kept u_M_sign u_M_manyAbove u_M_manyBelow u_M_above u_M_below u_M_refused u_M_acts u_M_act u_M_waits u_M_wait u_M_held u_M_place u_M_heap u_M_clocks u_M_counts u_M_talking u_M_most u_M_hasA u_M_hasB u_M_talks u_M_big v_M_size v_M_at v_M_begin v_M_kind v_M_value a_M_read a_M_text) H → va_S A s.heap H locs → decode cX11_takesDue pc = .ok (.ireturn, 1) → W p l e rm_X11_takesDue s m args below meth c H locs 0 0 Q (F0 m pc ls [.int r9]) := by
    intro r9 v_M_at v_M_begin v_M_kind v_M_value a_M_read he; cases he; exact hret0
  have hl : lv_has ls 3 [(0, .ref q_M)] := hl
  have B85 : ∀ (x1 : Int32) (x2 : Int32) (v_M_at : Int32) (v_M_begin : Int32) (v_M_kind : Int32) (v_M_value : Int64) (a_M_read : Nat → Int32) (H : Heap) (locs : List Loc) (ls : Array Slot) (hl : lv_has ls 3 [(0, .ref q_M), (1, .int x1), (2, .int x2)]) (hP : va_P D vwCl (ws_X11_takesDue cI cJ cZ cA q_M q_M_read q_M_text u_M_now u_M_images u_M_kept u_M_sign u_M_manyAbove u_M_manyBelow u_M_above u_M_below u_M_refused u_M_acts u_M_act u_M_waits u_M_wait u_M_held u_M_place u_M_heap u_M_clocks u_M_counts u_M_talking u_M_most u_M_hasA u_M_hasB u_M_talks u_M_big v_M_size v_M_at v_M_begin v_M_kind v_M_value a_M_read a_M_text) H) (hD : va_D A (ws_X11_takesDue cI cJ cZ cA q_M q_M_read q_M_text u_M_now u_M_images u_M_kept u_M_sign u_M_manyAbove u_M_manyBelow u_M_above u_M_below u_M_refused u_M_acts u_M_act u_M_waits u_M_wait u_M_held u_M_place u_M_heap u_M_clocks u_M_counts u_M_talking u_M_most u_M_hasA u_M_hasB u_M_talks u_M_big v_M_size v_M_at v_M_begin v_M_kind v_M_value a_M_read a_M_text)) (hS : va_S A s.heap H locs), g_X11_takesDue_85 v_M_size a_M_text x1 x2 v_M_at v_M_begin v_M_kind v_M_value a_M_read = some o → W p l e rm_X11_takesDue s m args below meth c H locs 0 0 Q (F0 m 85 ls []) := by
    intro  x1 x2 v_M_at v_M_begin v_M_kind v_M_value a_M_read H locs ls hl hP hD hS hg
    refine lv_aload_n hx hb dX11_takesDue_85 rfl (lv_at hl 0 rfl) ?_
    refine zget (C := RX11) (T := TX11) (N := 31) S hK hP 0 rfl rfl 13 (Nat.le_of_ble_eq_true rfl) zf_11 zw_455 rfl dX11_takesDue_86 ?_
    refine lv_iconst (v := 2) hx hb dX11_takesDue_89 (by decide) ?_
    refine lv_icmp_ne (tgt := 107) hx hb dX11_takesDue_90 (by decide) (fun h90 => ?_) (fun h90 => ?_)
    · have hg := zn hg h90
      refine lv_iconst (v := 0) hx hb dX11_takesDue_107 (by decide) ?_
      exact hret 0 v_M_at v_M_begin v_M_kind v_M_value a_M_read hg (zb01 (Or.inl rfl)) _ _ _ _ hP hS dX11_takesDue_108
    · have hg := zp hg h90
      refine lv_aload_n hx hb dX11_takesDue_93 rfl (lv_at hl 0 rfl) ?_
      refine zget (C := RX11) (T := TX11) (N := 31) S hK hP 0 rfl rfl 14 (Nat.le_of_ble_eq_true rfl) zf_11 zw_456 rfl dX11_takesDue_94 ?_
      refine lv_lconst (v := 0) hx hb dX11_takesDue_97 (by decide) ?_
      refine lv_ldc2 (v := 99) hx hb S.2.2.2.1 (ht _ zw_270) dX11_takesDue_98 ?_
      obtain ⟨v9, hc10, hg⟩ := zbd hg
      refine zcallS (rest := []) S (c_X11_in l D cI cJ cZ cA ga v_M_value (0 : Int64) (99 : Int64) v9 hc10) (zgS zw_220 zw_221 zw_5 zw_222) rfl hd_X11_in ⟨rfl, rfl⟩ ⟨Nat.le_of_ble_eq_true rfl, Nat.le_of_ble_eq_true rfl⟩ rfl hl.1 rfl (Nat.le_of_ble_eq_true rfl) dX11_takesDue_101 hP hD hS hA hK hG (isC := []) rfl rfl rfl (w2 := (ws_X11_takesDue cI cJ cZ cA q_M q_M_read q_M_text u_M_now u_M_images u_M_kept u_M_sign u_M_manyAbove u_M_manyBelow u_M_above u_M_below u_M_refused u_M_acts u_M_act u_M_waits u_M_wait u_M_held u_M_place u_M_heap u_M_clocks u_M_counts u_M_talking u_M_most u_M_hasA u_M_hasB u_M_talks u_M_big v_M_size v_M_at v_M_begin v_M_kind v_M_value a_M_read a_M_text)) rfl (st1 := [.int v9]) rfl (fun H locs hP hD hS => ?_)
      refine lv_if_ne (tgt := 109) hx hb dX11_takesDue_104 (by decide) (fun h104 => ?_) (fun h104 => ?_)
      · have hg := zn hg h104
        refine lv_aload_n hx hb dX11_takesDue_109 rfl (lv_at hl 0 rfl) ?_
        refine zget (C := RX11) (T := TX11) (N := 31) S hK hP 0 rfl rfl 15 (Nat.le_of_ble_eq_true rfl) zf_11 zw_157 rfl dX11_takesDue_110 ?_
        refine lv_bipush (v := 87) hx hb dX11_takesDue_113 (by decide) ?_
        refine lv_iload_n hx hb dX11_takesDue_115 rfl (lv_at hl 1 rfl) ?_
        refine lv_iadd hx hb dX11_takesDue_116 ?_
        refine lv_iload_n hx hb dX11_takesDue_117 rfl (lv_at hl 2 rfl) ?_
        refine lv_aload_n hx hb dX11_takesDue_118 rfl (lv_at hl 0 rfl) ?_
        refine zget (C := RX11) (T := TX11) (N := 31) S hK hP 0 rfl rfl 14 (Nat.le_of_ble_eq_true rfl) zf_11 zw_456 rfl dX11_takesDue_119 ?_
        refine lv_l2i hx hb dX11_takesDue_122 rfl ?_
        refine lv_imul hx hb dX11_takesDue_123 ?_
        obtain ⟨h11, hg⟩ := zck hg
        refine ziast hx hb hK hP hD hS 1 0 rfl rfl (j := ((87 + x1).toNatClampNeg)) h11 rfl dX11_takesDue_124 (w2 := (ws_X11_takesDue cI cJ cZ cA q_M q_M_read q_M_text u_M_now u_M_images u_M_kept u_M_sign u_M_manyAbove u_M_manyBelow u_M_above u_M_below u_M_refused u_M_acts u_M_act u_M_waits u_M_wait u_M_held u_M_place u_M_heap u_M_clocks u_M_counts u_M_talking u_M_most u_M_hasA u_M_hasB u_M_talks u_M_big v_M_size v_M_at v_M_begin v_M_kind v_M_value (upd a_M_read ((87 + x1).toNatClampNeg) (x2 * v_M_value.toInt32)) a_M_text)) rfl (fun H locs hP hD hS => ?_)
        refine lv_aload_n hx hb dX11_takesDue_125 rfl (lv_at hl 0 rfl) ?_
        refine zget (C := RX11) (T := TX11) (N := 31) S hK hP 0 rfl rfl 15 (Nat.le_of_ble_eq_true rfl) zf_11 zw_157 rfl dX11_takesDue_126 ?_
        refine lv_iconst (v := 5) hx hb dX11_takesDue_129 (by decide) ?_
        refine lv_dup2_11 hx hb dX11_takesDue_130 rfl rfl ?_
        refine ziald hx hb hK hP 1 0 rfl rfl (j := 5) (zin (by decide)) (by decide) dX11_takesDue_131 ?_
        refine lv_iconst (v := 1) hx hb dX11_takesDue_132 (by decide) ?_
        refine lv_iadd hx hb dX11_takesDue_133 ?_
        refine ziast hx hb hK hP hD hS 1 0 rfl rfl (j := 5) (zin (by decide)) (by decide) dX11_takesDue_134 (w2 := (ws_X11_takesDue cI cJ cZ cA q_M q_M_read q_M_text u_M_now u_M_images u_M_kept u_M_sign u_M_manyAbove u_M_manyBelow u_M_above u_M_below u_M_refused u_M_acts u_M_act u_M_waits u_M_wait u_M_held u_M_place u_M_heap u_M_clocks u_M_counts u_M_talking u_M_most u_M_hasA u_M_hasB u_M_talks u_M_big v_M_size v_M_at v_M_begin v_M_kind v_M_value (upd (upd a_M_read ((87 + x1).toNatClampNeg) (x2 * v_M_value.toInt32)) 5 (((upd a_M_read ((87 + x1).toNatClampNeg) (x2 * v_M_value.toInt32)) 5) + 1)) a_M_text)) rfl (fun H locs hP hD hS => ?_)
        refine lv_aload_n hx hb dX11_takesDue_135 rfl (lv_at hl 0 rfl) ?_
        obtain ⟨v12, hc13, hg⟩ := zbd hg
        refine zcallV (rest := []) S (c_X11_stops l D cI cJ cZ cA ga q_M q_M_text u_M_now u_M_images u_M_kept u_M_sign u_M_manyAbove u_M_manyBelow u_M_above u_M_below u_M_refused (.ref q_M_read) u_M_acts u_M_act u_M_waits u_M_wait u_M_held u_M_place u_M_heap u_M_clocks u_M_counts u_M_talking u_M_most u_M_hasA u_M_hasB u_M_talks u_M_big v_M_size v_M_at v_M_begin v_M_kind v_M_value a_M_text v12 hc13) (zgV zw_491 zw_492 zw_493 zw_5 zw_494) rfl hd_X11_stops ⟨rfl, rfl⟩ ⟨Nat.le_of_ble_eq_true rfl, Nat.le_of_ble_eq_true rfl⟩ 0 11 rfl rfl rfl hl.1 rfl (Nat.le_of_ble_eq_true rfl) dX11_takesDue_136 hP hD hS hA hK hG (isC := [0, 2]) rfl rfl rfl (w2 := (ws_X11_takesDue cI cJ cZ cA q_M q_M_read q_M_text u_M_now u_M_images u_M_kept u_M_sign u_M_manyAbove u_M_manyBelow u_M_above u_M_below u_M_refused u_M_acts u_M_act u_M_waits u_M_wait u_M_held u_M_place u_M_heap u_M_clocks u_M_counts u_M_talking u_M_most u_M_hasA u_M_hasB u_M_talks u_M_big v_M_size v12.2.1 v12.2.2.1 v12.2.2.2.1 v12.2.2.2.2 (upd (upd a_M_read ((87 + x1).toNatClampNeg) (x2 * v_M_value.toInt32)) 5 (((upd a_M_read ((87 + x1).toNatClampNeg) (x2 * v_M_value.toInt32)) 5) + 1)) a_M_text)) rfl (st1 := [.int v12.1]) rfl (fun H locs hP hD hS => ?_)
        obtain ⟨hz01, hg⟩ := zck2 hg
        exact hret v12.1 v12.2.1 v12.2.2.1 v12.2.2.2.1 v12.2.2.2.2 (upd (upd a_M_read ((87 + x1).toNatClampNeg) (x2 * v_M_value.toInt32)) 5 (((upd a_M_read ((87 + x1).toNatClampNeg) (x2 * v_M_value.toInt32)) 5) + 1)) hg (zb01 hz01) _ _ _ _ hP hS dX11_takesDue_139
      · have hg := zp hg h104
        refine lv_iconst (v := 0) hx hb dX11_takesDue_107 (by decide) ?_
        exact hret 0 v_M_at v_M_begin v_M_kind v_M_value a_M_read hg (zb01 (Or.inl rfl)) _ _ _ _ hP hS dX11_takesDue_108
  refine lv_aload_n hx hb dX11_takesDue_0 rfl (lv_at hl 0 rfl) ?_
  refine zget (C := RX11) (T := TX11) (N := 31) S hK hP 0 rfl rfl 15 (Nat.le_of_ble_eq_true rfl) zf_11 zw_157 rfl dX11_takesDue_1 ?_
  refine lv_iconst (v := 5) hx hb dX11_takesDue_4 (by decide) ?_
  refine ziald hx hb hK hP 1 0 rfl rfl (j := 5) (zin (by decide)) (by decide) dX11_takesDue_5 ?_
  refine lv_istore_n (lv' := [(1, .int (a_M_read 5)), (0, .ref q_M)]) hx hb dX11_takesDue_6 rfl hl (by decide) rfl (fun ls hl => ?_)
  refine lv_iload_n hx hb dX11_takesDue_7 rfl (lv_at hl 0 rfl) ?_
  refine lv_bipush (v := 8) hx hb dX11_takesDue_8 (by decide) ?_
  refine lv_icmp_eq (tgt := 23) hx hb dX11_takesDue_10 (by decide) (fun h10 => ?_) (fun h10 => ?_)
  · have hg := zp hg h10
    refine lv_iconst (v := 0) hx hb dX11_takesDue_23 (by decide) ?_
    exact hret 0 v_M_at v_M_begin v_M_kind v_M_value a_M_read hg (zb01 (Or.inl rfl)) _ _ _ _ hP hS dX11_takesDue_24
  · have hg := zn hg h10
    refine lv_aload_n hx hb dX11_takesDue_13 rfl (lv_at hl 1 rfl) ?_
    refine lv_iconst (v := 0) hx hb dX11_takesDue_14 (by decide) ?_
    refine lv_bipush (v := 99) hx hb dX11_takesDue_15 (by decide) ?_
    obtain ⟨v1, hc2, hg⟩ := zbd hg
    refine zcallV (rest := []) S (c_X11_takes l D cI cJ cZ cA ga q_M q_M_text u_M_now u_M_images u_M_kept u_M_sign u_M_manyAbove u_M_manyBelow u_M_above u_M_below u_M_refused (.ref q_M_read) u_M_acts u_M_act u_M_waits u_M_wait u_M_held u_M_place u_M_heap u_M_clocks u_M_counts u_M_talking u_M_most u_M_hasA u_M_hasB u_M_talks u_M_big v_M_size v_M_at v_M_begin v_M_kind v_M_value a_M_text 0 99 v1 hc2) (zgV zw_487 zw_488 zw_489 zw_5 zw_490) rfl hd_X11_takes ⟨rfl, rfl⟩ ⟨Nat.le_of_ble_eq_true rfl, Nat.le_of_ble_eq_true rfl⟩ 0 11 rfl rfl rfl hl.1 rfl (Nat.le_of_ble_eq_true rfl) dX11_takesDue_17 hP hD hS hA hK hG (isC := [0, 2]) rfl rfl rfl (w2 := (ws_X11_takesDue cI cJ cZ cA q_M q_M_read q_M_text u_M_now u_M_images u_M_kept u_M_sign u_M_manyAbove u_M_manyBelow u_M_above u_M_below u_M_refused u_M_acts u_M_act u_M_waits u_M_wait u_M_held u_M_place u_M_heap u_M_clocks u_M_counts u_M_talking u_M_most u_M_hasA u_M_hasB u_M_talks u_M_big v_M_size v1.2.1 v1.2.2.1 v1.2.2.2.1 v1.2.2.2.2 a_M_read a_M_text)) rfl (st1 := [.int v1.1]) rfl (fun H locs hP hD hS => ?_)
    refine lv_if_ne (tgt := 25) hx hb dX11_takesDue_20 (by decide) (fun h20 => ?_) (fun h20 => ?_)
    · have hg := zn hg h20
      refine lv_aload_n hx hb dX11_takesDue_25 rfl (lv_at hl 1 rfl) ?_
      refine zget (C := RX11) (T := TX11) (N := 31) S hK hP 0 rfl rfl 15 (Nat.le_of_ble_eq_true rfl) zf_11 zw_157 rfl dX11_takesDue_26 ?_
      refine lv_bipush (v := 71) hx hb dX11_takesDue_29 (by decide) ?_
      refine lv_iload_n hx hb dX11_takesDue_31 rfl (lv_at hl 0 rfl) ?_
      refine lv_iadd hx hb dX11_takesDue_32 ?_
      refine lv_aload_n hx hb dX11_takesDue_33 rfl (lv_at hl 1 rfl) ?_
      refine zget (C := RX11) (T := TX11) (N := 31) S hK hP 0 rfl rfl 14 (Nat.le_of_ble_eq_true rfl) zf_11 zw_456 rfl dX11_takesDue_34 ?_
      refine lv_l2i hx hb dX11_takesDue_37 rfl ?_
      obtain ⟨h3, hg⟩ := zck hg
      refine ziast hx hb hK hP hD hS 1 0 rfl rfl (j := ((71 + (a_M_read 5)).toNatClampNeg)) h3 rfl dX11_takesDue_38 (w2 := (ws_X11_takesDue cI cJ cZ cA q_M q_M_read q_M_text u_M_now u_M_images u_M_kept u_M_sign u_M_manyAbove u_M_manyBelow u_M_above u_M_below u_M_refused u_M_acts u_M_act u_M_waits u_M_wait u_M_held u_M_place u_M_heap u_M_clocks u_M_counts u_M_talking u_M_most u_M_hasA u_M_hasB u_M_talks u_M_big v_M_size v1.2.1 v1.2.2.1 v1.2.2.2.1 v1.2.2.2.2 (upd a_M_read ((71 + (a_M_read 5)).toNatClampNeg) v1.2.2.2.2.toInt32) a_M_text)) rfl (fun H locs hP hD hS => ?_)
      refine lv_aload_n hx hb dX11_takesDue_39 rfl (lv_at hl 1 rfl) ?_
      refine lv_iconst (v := 0) hx hb dX11_takesDue_40 (by decide) ?_
      refine lv_bipush (v := 99) hx hb dX11_takesDue_41 (by decide) ?_
      obtain ⟨v4, hc5, hg⟩ := zbd hg
      refine zcallV (rest := []) S (c_X11_takes l D cI cJ cZ cA ga q_M q_M_text u_M_now u_M_images u_M_kept u_M_sign u_M_manyAbove u_M_manyBelow u_M_above u_M_below u_M_refused (.ref q_M_read) u_M_acts u_M_act u_M_waits u_M_wait u_M_held u_M_place u_M_heap u_M_clocks u_M_counts u_M_talking u_M_most u_M_hasA u_M_hasB u_M_talks u_M_big v_M_size v1.2.1 v1.2.2.1 v1.2.2.2.1 v1.2.2.2.2 a_M_text 0 99 v4 hc5) (zgV zw_487 zw_488 zw_489 zw_5 zw_490) rfl hd_X11_takes ⟨rfl, rfl⟩ ⟨Nat.le_of_ble_eq_true rfl, Nat.le_of_ble_eq_true rfl⟩ 0 11 rfl rfl rfl hl.1 rfl (Nat.le_of_ble_eq_true rfl) dX11_takesDue_43 hP hD hS hA hK hG (isC := [0, 2]) rfl rfl rfl (w2 := (ws_X11_takesDue cI cJ cZ cA q_M q_M_read q_M_text u_M_now u_M_images u_M_kept u_M_sign u_M_manyAbove u_M_manyBelow u_M_above u_M_below u_M_refused u_M_acts u_M_act u_M_waits u_M_wait u_M_held u_M_place u_M_heap u_M_clocks u_M_counts u_M_talking u_M_most u_M_hasA u_M_hasB u_M_talks u_M_big v_M_size v4.2.1 v4.2.2.1 v4.2.2.2.1 v4.2.2.2.2 (upd a_M_read ((71 + (a_M_read 5)).toNatClampNeg) v1.2.2.2.2.toInt32) a_M_text)) rfl (st1 := [.int v4.1]) rfl (fun H locs hP hD hS => ?_)
      refine lv_if_ne (tgt := 51) hx hb dX11_takesDue_46 (by decide) (fun h46 => ?_) (fun h46 => ?_)
      · have hg := zn hg h46
        refine lv_aload_n hx hb dX11_takesDue_51 rfl (lv_at hl 1 rfl) ?_
        refine zget (C := RX11) (T := TX11) (N := 31) S hK hP 0 rfl rfl 15 (Nat.le_of_ble_eq_true rfl) zf_11 zw_157 rfl dX11_takesDue_52 ?_
        refine lv_bipush (v := 79) hx hb dX11_takesDue_55 (by decide) ?_
        refine lv_iload_n hx hb dX11_takesDue_57 rfl (lv_at hl 0 rfl) ?_
        refine lv_iadd hx hb dX11_takesDue_58 ?_
        refine lv_aload_n hx hb dX11_takesDue_59 rfl (lv_at hl 1 rfl) ?_
        refine zget (C := RX11) (T := TX11) (N := 31) S hK hP 0 rfl rfl 14 (Nat.le_of_ble_eq_true rfl) zf_11 zw_456 rfl dX11_takesDue_60 ?_
        refine lv_l2i hx hb dX11_takesDue_63 rfl ?_
        obtain ⟨h6, hg⟩ := zck hg
        refine ziast hx hb hK hP hD hS 1 0 rfl rfl (j := ((79 + (a_M_read 5)).toNatClampNeg)) h6 rfl dX11_takesDue_64 (w2 := (ws_X11_takesDue cI cJ cZ cA q_M q_M_read q_M_text u_M_now u_M_images u_M_kept u_M_sign u_M_manyAbove u_M_manyBelow u_M_above u_M_below u_M_refused u_M_acts u_M_act u_M_waits u_M_wait u_M_held u_M_place u_M_heap u_M_clocks u_M_counts u_M_talking u_M_most u_M_hasA u_M_hasB u_M_talks u_M_big v_M_size v4.2.1 v4.2.2.1 v4.2.2.2.1 v4.2.2.2.2 (upd (upd a_M_read ((71 + (a_M_read 5)).toNatClampNeg) v1.2.2.2.2.toInt32) ((79 + (a_M_read 5)).toNatClampNeg) v4.2.2.2.2.toInt32) a_M_text)) rfl (fun H locs hP hD hS => ?_)
        refine lv_aload_n hx hb dX11_takesDue_65 rfl (lv_at hl 1 rfl) ?_
        obtain ⟨v7, hc8, hg⟩ := zbd hg
        refine zcallV (rest := []) S (c_X11_next l D cI cJ cZ cA ga q_M q_M_text u_M_now u_M_images u_M_kept u_M_sign u_M_manyAbove u_M_manyBelow u_M_above u_M_below u_M_refused (.ref q_M_read) u_M_acts u_M_act u_M_waits u_M_wait u_M_held u_M_place u_M_heap u_M_clocks u_M_counts u_M_talking u_M_most u_M_hasA u_M_hasB u_M_talks u_M_big v_M_size v4.2.1 v4.2.2.1 v4.2.2.2.1 v4.2.2.2.2 a_M_text v7 hc8) (zgV zw_464 zw_465 zw_466 zw_5 zw_467) rfl hd_X11_next ⟨rfl, rfl⟩ ⟨Nat.le_of_ble_eq_true rfl, Nat.le_of_ble_eq_true rfl⟩ 0 11 rfl rfl rfl hl.1 rfl (Nat.le_of_ble_eq_true rfl) dX11_takesDue_66 hP hD hS hA hK hG (isC := [0, 2]) rfl rfl rfl (w2 := (ws_X11_takesDue cI cJ cZ cA q_M q_M_read q_M_text u_M_now u_M_images u_M_kept u_M_sign u_M_manyAbove u_M_manyBelow u_M_above u_M_below u_M_refused u_M_acts u_M_act u_M_waits u_M_wait u_M_held u_M_place u_M_heap u_M_clocks u_M_counts u_M_talking u_M_most u_M_hasA u_M_hasB u_M_talks u_M_big v_M_size v7.1 v7.2.1 v7.2.2.1 v7.2.2.2 (upd (upd a_M_read ((71 + (a_M_read 5)).toNatClampNeg) v1.2.2.2.2.toInt32) ((79 + (a_M_read 5)).toNatClampNeg) v4.2.2.2.2.toInt32) a_M_text)) rfl (st1 := []) rfl (fun H locs hP hD hS => ?_)
        refine lv_iconst (v := 1) hx hb dX11_takesDue_69 (by decide) ?_
        refine lv_istore_n (lv' := [(2, .int 1), (1, .int (a_M_read 5)), (0, .ref q_M)]) hx hb dX11_takesDue_70 rfl hl (by decide) rfl (fun ls hl => ?_)
        refine lv_aload_n hx hb dX11_takesDue_71 rfl (lv_at hl 2 rfl) ?_
        refine zget (C := RX11) (T := TX11) (N := 31) S hK hP 0 rfl rfl 13 (Nat.le_of_ble_eq_true rfl) zf_11 zw_455 rfl dX11_takesDue_72 ?_
        refine lv_iconst (v := 3) hx hb dX11_takesDue_75 (by decide) ?_
        refine lv_icmp_ne (tgt := 85) hx hb dX11_takesDue_76 (by decide) (fun h76 => ?_) (fun h76 => ?_)
        · have hg := zn hg h76
          exact B85 (a_M_read 5) 1 v7.1 v7.2.1 v7.2.2.1 v7.2.2.2 (upd (upd a_M_read ((71 + (a_M_read 5)).toNatClampNeg) v1.2.2.2.2.toInt32) ((79 + (a_M_read 5)).toNatClampNeg) v4.2.2.2.2.toInt32) _ _ _ (lv_sub hl [2, 1, 0] rfl) hP hD hS hg
        · have hg := zp hg h76
          refine lv_iconst (v := (-1)) hx hb dX11_takesDue_79 (by decide) ?_
          refine lv_istore_n (lv' := [(2, .int (-1)), (1, .int (a_M_read 5)), (0, .ref q_M)]) hx hb dX11_takesDue_80 rfl hl (by decide) rfl (fun ls hl => ?_)
          refine lv_aload_n hx hb dX11_takesDue_81 rfl (lv_at hl 2 rfl) ?_
          obtain ⟨v14, hc15, hg⟩ := zbd hg
          refine zcallV (rest := []) S (c_X11_next l D cI cJ cZ cA ga q_M q_M_text u_M_now u_M_images u_M_kept u_M_sign u_M_manyAbove u_M_manyBelow u_M_above u_M_below u_M_refused (.ref q_M_read) u_M_acts u_M_act u_M_waits u_M_wait u_M_held u_M_place u_M_heap u_M_clocks u_M_counts u_M_talking u_M_most u_M_hasA u_M_hasB u_M_talks u_M_big v_M_size v7.1 v7.2.1 v7.2.2.1 v7.2.2.2 a_M_text v14 hc15) (zgV zw_464 zw_465 zw_466 zw_5 zw_467) rfl hd_X11_next ⟨rfl, rfl⟩ ⟨Nat.le_of_ble_eq_true rfl, Nat.le_of_ble_eq_true rfl⟩ 0 11 rfl rfl rfl hl.1 rfl (Nat.le_of_ble_eq_true rfl) dX11_takesDue_82 hP hD hS hA hK hG (isC := [0, 2]) rfl rfl rfl (w2 := (ws_X11_takesDue cI cJ cZ cA q_M q_M_read q_M_text u_M_now u_M_images u_M_kept u_M_sign u_M_manyAbove u_M_manyBelow u_M_above u_M_below u_M_refused u_M_acts u_M_act u_M_waits u_M_wait u_M_held u_M_place u_M_heap u_M_clocks u_M_counts u_M_talking u_M_most u_M_hasA u_M_hasB u_M_talks u_M_big v_M_size v14.1 v14.2.1 v14.2.2.1 v14.2.2.2 (upd (upd a_M_read ((71 + (a_M_read 5)).toNatClampNeg) v1.2.2.2.2.toInt32) ((79 + (a_M_read 5)).toNatClampNeg) v4.2.2.2.2.toInt32) a_M_text)) rfl (st1 := []) rfl (fun H locs hP hD hS => ?_)
          exact B85 (a_M_read 5) (-1) v14.1 v14.2.1 v14.2.2.1 v14.2.2.2 (upd (upd a_M_read ((71 + (a_M_read 5)).toNatClampNeg) v1.2.2.2.2.toInt32) ((79 + (a_M_read 5)).toNatClampNeg) v4.2.2.2.2.toInt32) _ _ _ (lv_sub hl [2, 1, 0] rfl) hP hD hS hg
      · have hg := zp hg h46
        refine lv_iconst (v := 0) hx hb dX11_takesDue_49 (by decide) ?_
        exact hret 0 v4.2.1 v4.2.2.1 v4.2.2.2.1 v4.2.2.2.2 (upd a_M_read ((71 + (a_M_read 5)).toNatClampNeg) v1.2.2.2.2.toInt32) hg (zb01 (Or.inl rfl)) _ _ _ _ hP hS dX11_takesDue_50
    · have hg := zp hg h20
      refine lv_iconst (v := 0) hx hb dX11_takesDue_23 (by decide) ?_
      exact hret 0 v1.2.1 v1.2.2.1 v1.2.2.2.1 v1.2.2.2.2 a_M_read hg (zb01 (Or.inl rfl)) _ _ _ _ hP hS dX11_takesDue_24

/-! SpokenClockModel.takesSight()Z -/
abbrev ws_X11_takesSight (cI cJ cZ cA : ClassId) (q_M q_M_read q_M_text : Nat) (u_M_now : Value) (u_M_images : Value) (u_M_kept : Value) (u_M_sign : Value) (u_M_manyAbove : Value) (u_M_manyBelow : Value) (u_M_above : Value) (u_M_below : Value) (u_M_refused : Value) (u_M_acts : Value) (u_M_act : Value) (u_M_waits : Value) (u_M_wait : Value) (u_M_held : Value) (u_M_place : Value) (u_M_heap : Value) (u_M_clocks : Value) (u_M_counts : Value) (u_M_talking : Value) (u_M_most : Value) (u_M_hasA : Value) (u_M_hasB : Value) (u_M_talks : Value) (u_M_big : Value) (v_M_size : Int32) (v_M_at : Int32) (v_M_begin : Int32) (v_M_kind : Int32) (v_M_value : Int64) (a_M_read : Nat → Int32) (a_M_text : Nat → Int32) : va_W := [(q_M, .inr (11, [u_M_now, u_M_images, u_M_kept, .ref q_M_text, .int v_M_size, u_M_sign, u_M_manyAbove, u_M_manyBelow, u_M_above, u_M_below, u_M_refused, .int v_M_at, .int v_M_begin, .int v_M_kind, .long v_M_value, .ref q_M_read, u_M_acts, u_M_act, u_M_waits, u_M_wait, u_M_held, u_M_place, u_M_heap, u_M_clocks, u_M_counts, u_M_talking, u_M_most, u_M_hasA, u_M_hasB, u_M_talks, u_M_big])), (q_M_read, .inl (cI, 155, .inl a_M_read)), (q_M_text, .inl (cI, 250, .inl a_M_text))]
abbrev rm_X11_takesSight : Room := { frames := 4, cells := 0, slots := 0, locals := 88 }
def g_X11_takesSight (v_M_size : Int32) (a_M_text : Nat → Int32) (v_M_at : Int32) (v_M_begin : Int32) (v_M_kind : Int32) (v_M_value : Int64) (a_M_read : Nat → Int32) : Option (Int32 × Int32 × Int32 × Int32 × Int64 × (Nat → Int32)) :=
  if (a_M_read 6) = 10 then (
    some (0, v_M_at, v_M_begin, v_M_kind, v_M_value, a_M_read)
  ) else (
    (g_X11_takes v_M_size a_M_text 0 240 v_M_at v_M_begin v_M_kind v_M_value).bind fun v1 =>
    if v1.1 = 0 then (
      some (0, v1.2.1, v1.2.2.1, v1.2.2.2.1, v1.2.2.2.2, a_M_read)
    ) else (
      if (95 + (a_M_read 6)) < 0 ∨ 155 ≤ (95 + (a_M_read 6)).toNatClampNeg then none else
      (g_X11_takes v_M_size a_M_text 0 999 v1.2.1 v1.2.2.1 v1.2.2.2.1 v1.2.2.2.2).bind fun v4 =>
      if v4.1 = 0 then (
        some (0, v4.2.1, v4.2.2.1, v4.2.2.2.1, v4.2.2.2.2, upd a_M_read ((95 + (a_M_read 6)).toNatClampNeg) v1.2.2.2.2.toInt32)
      ) else (
        if (105 + (a_M_read 6)) < 0 ∨ 155 ≤ (105 + (a_M_read 6)).toNatClampNeg then none else
        (g_X11_stops v_M_size a_M_text v4.2.1 v4.2.2.1 v4.2.2.2.1 v4.2.2.2.2).bind fun v7 =>
        if v7.1 = 0 ∨ v7.1 = 1 then
          some (v7.1, v7.2.1, v7.2.2.1, v7.2.2.2.1, v7.2.2.2.2, upd (upd (upd a_M_read ((95 + (a_M_read 6)).toNatClampNeg) v1.2.2.2.2.toInt32) ((105 + (a_M_read 6)).toNatClampNeg) v4.2.2.2.2.toInt32) 6 (((upd (upd a_M_read ((95 + (a_M_read 6)).toNatClampNeg) v1.2.2.2.2.toInt32) ((105 + (a_M_read 6)).toNatClampNeg) v4.2.2.2.2.toInt32) 6) + 1))
        else none
      )
    )
  )
theorem hd_X11_takesSight : yX11_takesSight.cls = RX11 ∧ yX11_takesSight.cls ≠ "java/lang/invoke/MethodHandle" ∧ yX11_takesSight.cls ≠ "java/lang/invoke/VarHandle" ∧ (parseMethodDescriptor yX11_takesSight.desc).map (fun d => d.parameters.length) = some 0 := by decide +kernel
set_option maxHeartbeats 4000000 in
set_option maxRecDepth 100000 in
theorem c_X11_takesSight (l : Launch) (D : va_G) (cI cJ cZ cA : ClassId) (ga : Nat → Nat) (q_M q_M_read q_M_text : Nat) (u_M_now : Value) (u_M_images : Value) (u_M_kept : Value) (u_M_sign : Value) (u_M_manyAbove : Value) (u_M_manyBelow : Value) (u_M_above : Value) (u_M_below : Value) (u_M_refused : Value) (u_M_acts : Value) (u_M_act : Value) (u_M_waits : Value) (u_M_wait : Value) (u_M_held : Value) (u_M_place : Value) (u_M_heap : Value) (u_M_clocks : Value) (u_M_counts : Value) (u_M_talking : Value) (u_M_most : Value) (u_M_hasA : Value) (u_M_hasB : Value) (u_M_talks : Value) (u_M_big : Value) (v_M_size : Int32) (v_M_at : Int32) (v_M_begin : Int32) (v_M_kind : Int32) (v_M_value : Int64) (a_M_read : Nat → Int32) (a_M_text : Nat → Int32) (o : Int32 × Int32 × Int32 × Int32 × Int64 × (Nat → Int32)) (hg : g_X11_takesSight v_M_size a_M_text v_M_at v_M_begin v_M_kind v_M_value a_M_read = some o) : zM l yX11_takesSight (Cond.code yX11_takesSight cX11_takesSight 2 (some .boolean) :: wsL_law) rm_X11_takesSight D (zTy cI cJ cZ cA) ga [.ref q_M] (ws_X11_takesSight cI cJ cZ cA q_M q_M_read q_M_text u_M_now u_M_images u_M_kept u_M_sign u_M_manyAbove u_M_manyBelow u_M_above u_M_below u_M_refused u_M_acts u_M_act u_M_waits u_M_wait u_M_held u_M_place u_M_heap u_M_clocks u_M_counts u_M_talking u_M_most u_M_hasA u_M_hasB u_M_talks u_M_big v_M_size v_M_at v_M_begin v_M_kind v_M_value a_M_read a_M_text) (ws_X11_takesSight cI cJ cZ cA q_M q_M_read q_M_text u_M_now u_M_images u_M_kept u_M_sign u_M_manyAbove u_M_manyBelow u_M_above u_M_below u_M_refused u_M_acts u_M_act u_M_waits u_M_wait u_M_held u_M_place u_M_heap u_M_clocks u_M_counts u_M_talking u_M_most u_M_hasA u_M_hasB u_M_talks u_M_big v_M_size o.2.1 o.2.2.1 o.2.2.2.1 o.2.2.2.2.1 o.2.2.2.2.2 a_M_text) (some (.int o.1)) := by
  refine zenterN (own := RX11) (by decide) rfl rfl (Nat.le_of_ble_eq_true rfl) ?_
  intro p e s m args below meth c A ls Q S hA hK hG hl hP hD hS hret0
  have hx := S.1
  have hb := S.2.1
  have ht : ∀ w, w ∈ wsL_law → w.before args s = true := fun w h => S.2.2.2.2 w (List.mem_cons_of_mem _ h)
  have hret : ∀ (r9 : Int32) (v_M_at : Int32) (v_M_begin : Int32) (v_M_kind : Int32) (v_M_value : Int64) (a_M_read : Nat → Int32), (some (r9, v_M_at, v_M_begin, v_M_kind, v_M_value, a_M_read) : Option (Int32 × Int32 × Int32 × Int32 × Int64 × (Nat → Int32))) = some o → narrow .boolean (.int r9) = .int r9 → ∀ (H : Heap) (locs : List Loc) (pc : Nat) (ls : Array Slot), va_P D vwCl (ws_X11_takesSight cI cJ cZ cA q_M q_M_read q_M_text u_M_now u_M_images u_M_kept u_M_sign u_M_manyAbove u_M_manyBelow u_M_above u_M_below u_M_refused u_M_acts u_M_act u_M_waits u_M_wait u_M_held u_M_place u_M_heap u_M_clocks u_M_counts u_M_talking u_M_most u_M_hasA u_M_hasB u_M_talks u_M_big v_M_size v_M_at v_M_begin v_M_kind v_M_value a_M_read a_M_text) H → va_S A s.heap H locs → decode cX11_takesSight pc = .ok (.ireturn, 1) → W p l e rm_X11_takesSight s m args below meth c H locs 0 0 Q (F0 m pc ls [.int r9]) := by
    intro r9 v_M_at v_M_begin v_M_kind v_M_value a_M_read he; cases he; exact hret0
  have hl : lv_has ls 2 [(0, .ref q_M)] := hl
  refine lv_aload_n hx hb dX11_takesSight_0 rfl (lv_at hl 0 rfl) ?_
  refine zget (C := RX11) (T := TX11) (N := 31) S hK hP 0 rfl rfl 15 (Nat.le_of_ble_eq_true rfl) zf_11 zw_157 rfl dX11_takesSight_1 ?_
  refine lv_bipush (v := 6) hx hb dX11_takesSight_4 (by decide) ?_
  refine ziald hx hb hK hP 1 0 rfl rfl (j := 6) (zin (by decide)) (by decide) dX11_takesSight_6 ?_
  refine lv_istore_n (lv' := [(1, .int (a_M_read 6)), (0, .ref q_M)]) hx hb dX11_takesSight_7 rfl hl (by decide) rfl (fun ls hl => ?_)
  refine lv_iload_n hx hb dX11_takesSight_8 rfl (lv_at hl 0 rfl) ?_
  refine lv_bipush (v := 10) hx hb dX11_takesSight_9 (by decide) ?_
  refine lv_icmp_eq (tgt := 25) hx hb dX11_takesSight_11 (by decide) (fun h11 => ?_) (fun h11 => ?_)
  · have hg := zp hg h11
    refine lv_iconst (v := 0) hx hb dX11_takesSight_25 (by decide) ?_
    exact hret 0 v_M_at v_M_begin v_M_kind v_M_value a_M_read hg (zb01 (Or.inl rfl)) _ _ _ _ hP hS dX11_takesSight_26
  · have hg := zn hg h11
    refine lv_aload_n hx hb dX11_takesSight_14 rfl (lv_at hl 1 rfl) ?_
    refine lv_iconst (v := 0) hx hb dX11_takesSight_15 (by decide) ?_
    refine lv_sipush (v := 240) hx hb dX11_takesSight_16 (by decide) ?_
    obtain ⟨v1, hc2, hg⟩ := zbd hg
    refine zcallV (rest := []) S (c_X11_takes l D cI cJ cZ cA ga q_M q_M_text u_M_now u_M_images u_M_kept u_M_sign u_M_manyAbove u_M_manyBelow u_M_above u_M_below u_M_refused (.ref q_M_read) u_M_acts u_M_act u_M_waits u_M_wait u_M_held u_M_place u_M_heap u_M_clocks u_M_counts u_M_talking u_M_most u_M_hasA u_M_hasB u_M_talks u_M_big v_M_size v_M_at v_M_begin v_M_kind v_M_value a_M_text 0 240 v1 hc2) (zgV zw_487 zw_488 zw_489 zw_5 zw_490) rfl hd_X11_takes ⟨rfl, rfl⟩ ⟨Nat.le_of_ble_eq_true rfl, Nat.le_of_ble_eq_true rfl⟩ 0 11 rfl rfl rfl hl.1 rfl (Nat.le_of_ble_eq_true rfl) dX11_takesSight_19 hP hD hS hA hK hG (isC := [0, 2]) rfl rfl rfl (w2 := (ws_X11_takesSight cI cJ cZ cA q_M q_M_read q_M_text u_M_now u_M_images u_M_kept u_M_sign u_M_manyAbove u_M_manyBelow u_M_above u_M_below u_M_refused u_M_acts u_M_act u_M_waits u_M_wait u_M_held u_M_place u_M_heap u_M_clocks u_M_counts u_M_talking u_M_most u_M_hasA u_M_hasB u_M_talks u_M_big v_M_size v1.2.1 v1.2.2.1 v1.2.2.2.1 v1.2.2.2.2 a_M_read a_M_text)) rfl (st1 := [.int v1.1]) rfl (fun H locs hP hD hS => ?_)
    refine lv_if_ne (tgt := 27) hx hb dX11_takesSight_22 (by decide) (fun h22 => ?_) (fun h22 => ?_)
    · have hg := zn hg h22
      refine lv_aload_n hx hb dX11_takesSight_27 rfl (lv_at hl 1 rfl) ?_
      refine zget (C := RX11) (T := TX11) (N := 31) S hK hP 0 rfl rfl 15 (Nat.le_of_ble_eq_true rfl) zf_11 zw_157 rfl dX11_takesSight_28 ?_
      refine lv_bipush (v := 95) hx hb dX11_takesSight_31 (by decide) ?_
      refine lv_iload_n hx hb dX11_takesSight_33 rfl (lv_at hl 0 rfl) ?_
      refine lv_iadd hx hb dX11_takesSight_34 ?_
      refine lv_aload_n hx hb dX11_takesSight_35 rfl (lv_at hl 1 rfl) ?_
      refine zget (C := RX11) (T := TX11) (N := 31) S hK hP 0 rfl rfl 14 (Nat.le_of_ble_eq_true rfl) zf_11 zw_456 rfl dX11_takesSight_36 ?_
      refine lv_l2i hx hb dX11_takesSight_39 rfl ?_
      obtain ⟨h3, hg⟩ := zck hg
      refine ziast hx hb hK hP hD hS 1 0 rfl rfl (j := ((95 + (a_M_read 6)).toNatClampNeg)) h3 rfl dX11_takesSight_40 (w2 := (ws_X11_takesSight cI cJ cZ cA q_M q_M_read q_M_text u_M_now u_M_images u_M_kept u_M_sign u_M_manyAbove u_M_manyBelow u_M_above u_M_below u_M_refused u_M_acts u_M_act u_M_waits u_M_wait u_M_held u_M_place u_M_heap u_M_clocks u_M_counts u_M_talking u_M_most u_M_hasA u_M_hasB u_M_talks u_M_big v_M_size v1.2.1 v1.2.2.1 v1.2.2.2.1 v1.2.2.2.2 (upd a_M_read ((95 + (a_M_read 6)).toNatClampNeg) v1.2.2.2.2.toInt32) a_M_text)) rfl (fun H locs hP hD hS => ?_)
      refine lv_aload_n hx hb dX11_takesSight_41 rfl (lv_at hl 1 rfl) ?_
      refine lv_iconst (v := 0) hx hb dX11_takesSight_42 (by decide) ?_
      refine lv_sipush (v := 999) hx hb dX11_takesSight_43 (by decide) ?_
      obtain ⟨v4, hc5, hg⟩ := zbd hg
      refine zcallV (rest := []) S (c_X11_takes l D cI cJ cZ cA ga q_M q_M_text u_M_now u_M_images u_M_kept u_M_sign u_M_manyAbove u_M_manyBelow u_M_above u_M_below u_M_refused (.ref q_M_read) u_M_acts u_M_act u_M_waits u_M_wait u_M_held u_M_place u_M_heap u_M_clocks u_M_counts u_M_talking u_M_most u_M_hasA u_M_hasB u_M_talks u_M_big v_M_size v1.2.1 v1.2.2.1 v1.2.2.2.1 v1.2.2.2.2 a_M_text 0 999 v4 hc5) (zgV zw_487 zw_488 zw_489 zw_5 zw_490) rfl hd_X11_takes ⟨rfl, rfl⟩ ⟨Nat.le_of_ble_eq_true rfl, Nat.le_of_ble_eq_true rfl⟩ 0 11 rfl rfl rfl hl.1 rfl (Nat.le_of_ble_eq_true rfl) dX11_takesSight_46 hP hD hS hA hK hG (isC := [0, 2]) rfl rfl rfl (w2 := (ws_X11_takesSight cI cJ cZ cA q_M q_M_read q_M_text u_M_now u_M_images u_M_kept u_M_sign u_M_manyAbove u_M_manyBelow u_M_above u_M_below u_M_refused u_M_acts u_M_act u_M_waits u_M_wait u_M_held u_M_place u_M_heap u_M_clocks u_M_counts u_M_talking u_M_most u_M_hasA u_M_hasB u_M_talks u_M_big v_M_size v4.2.1 v4.2.2.1 v4.2.2.2.1 v4.2.2.2.2 (upd a_M_read ((95 + (a_M_read 6)).toNatClampNeg) v1.2.2.2.2.toInt32) a_M_text)) rfl (st1 := [.int v4.1]) rfl (fun H locs hP hD hS => ?_)
      refine lv_if_ne (tgt := 54) hx hb dX11_takesSight_49 (by decide) (fun h49 => ?_) (fun h49 => ?_)
      · have hg := zn hg h49
        refine lv_aload_n hx hb dX11_takesSight_54 rfl (lv_at hl 1 rfl) ?_
        refine zget (C := RX11) (T := TX11) (N := 31) S hK hP 0 rfl rfl 15 (Nat.le_of_ble_eq_true rfl) zf_11 zw_157 rfl dX11_takesSight_55 ?_
        refine lv_bipush (v := 105) hx hb dX11_takesSight_58 (by decide) ?_
        refine lv_iload_n hx hb dX11_takesSight_60 rfl (lv_at hl 0 rfl) ?_
        refine lv_iadd hx hb dX11_takesSight_61 ?_
        refine lv_aload_n hx hb dX11_takesSight_62 rfl (lv_at hl 1 rfl) ?_
        refine zget (C := RX11) (T := TX11) (N := 31) S hK hP 0 rfl rfl 14 (Nat.le_of_ble_eq_true rfl) zf_11 zw_456 rfl dX11_takesSight_63 ?_
        refine lv_l2i hx hb dX11_takesSight_66 rfl ?_
        obtain ⟨h6, hg⟩ := zck hg
        refine ziast hx hb hK hP hD hS 1 0 rfl rfl (j := ((105 + (a_M_read 6)).toNatClampNeg)) h6 rfl dX11_takesSight_67 (w2 := (ws_X11_takesSight cI cJ cZ cA q_M q_M_read q_M_text u_M_now u_M_images u_M_kept u_M_sign u_M_manyAbove u_M_manyBelow u_M_above u_M_below u_M_refused u_M_acts u_M_act u_M_waits u_M_wait u_M_held u_M_place u_M_heap u_M_clocks u_M_counts u_M_talking u_M_most u_M_hasA u_M_hasB u_M_talks u_M_big v_M_size v4.2.1 v4.2.2.1 v4.2.2.2.1 v4.2.2.2.2 (upd (upd a_M_read ((95 + (a_M_read 6)).toNatClampNeg) v1.2.2.2.2.toInt32) ((105 + (a_M_read 6)).toNatClampNeg) v4.2.2.2.2.toInt32) a_M_text)) rfl (fun H locs hP hD hS => ?_)
        refine lv_aload_n hx hb dX11_takesSight_68 rfl (lv_at hl 1 rfl) ?_
        refine zget (C := RX11) (T := TX11) (N := 31) S hK hP 0 rfl rfl 15 (Nat.le_of_ble_eq_true rfl) zf_11 zw_157 rfl dX11_takesSight_69 ?_
        refine lv_bipush (v := 6) hx hb dX11_takesSight_72 (by decide) ?_
        refine lv_dup2_11 hx hb dX11_takesSight_74 rfl rfl ?_
        refine ziald hx hb hK hP 1 0 rfl rfl (j := 6) (zin (by decide)) (by decide) dX11_takesSight_75 ?_
        refine lv_iconst (v := 1) hx hb dX11_takesSight_76 (by decide) ?_
        refine lv_iadd hx hb dX11_takesSight_77 ?_
        refine ziast hx hb hK hP hD hS 1 0 rfl rfl (j := 6) (zin (by decide)) (by decide) dX11_takesSight_78 (w2 := (ws_X11_takesSight cI cJ cZ cA q_M q_M_read q_M_text u_M_now u_M_images u_M_kept u_M_sign u_M_manyAbove u_M_manyBelow u_M_above u_M_below u_M_refused u_M_acts u_M_act u_M_waits u_M_wait u_M_held u_M_place u_M_heap u_M_clocks u_M_counts u_M_talking u_M_most u_M_hasA u_M_hasB u_M_talks u_M_big v_M_size v4.2.1 v4.2.2.1 v4.2.2.2.1 v4.2.2.2.2 (upd (upd (upd a_M_read ((95 + (a_M_read 6)).toNatClampNeg) v1.2.2.2.2.toInt32) ((105 + (a_M_read 6)).toNatClampNeg) v4.2.2.2.2.toInt32) 6 (((upd (upd a_M_read ((95 + (a_M_read 6)).toNatClampNeg) v1.2.2.2.2.toInt32) ((105 + (a_M_read 6)).toNatClampNeg) v4.2.2.2.2.toInt32) 6) + 1)) a_M_text)) rfl (fun H locs hP hD hS => ?_)
        refine lv_aload_n hx hb dX11_takesSight_79 rfl (lv_at hl 1 rfl) ?_
        obtain ⟨v7, hc8, hg⟩ := zbd hg
        refine zcallV (rest := []) S (c_X11_stops l D cI cJ cZ cA ga q_M q_M_text u_M_now u_M_images u_M_kept u_M_sign u_M_manyAbove u_M_manyBelow u_M_above u_M_below u_M_refused (.ref q_M_read) u_M_acts u_M_act u_M_waits u_M_wait u_M_held u_M_place u_M_heap u_M_clocks u_M_counts u_M_talking u_M_most u_M_hasA u_M_hasB u_M_talks u_M_big v_M_size v4.2.1 v4.2.2.1 v4.2.2.2.1 v4.2.2.2.2 a_M_text v7 hc8) (zgV zw_491 zw_492 zw_493 zw_5 zw_494) rfl hd_X11_stops ⟨rfl, rfl⟩ ⟨Nat.le_of_ble_eq_true rfl, Nat.le_of_ble_eq_true rfl⟩ 0 11 rfl rfl rfl hl.1 rfl (Nat.le_of_ble_eq_true rfl) dX11_takesSight_80 hP hD hS hA hK hG (isC := [0, 2]) rfl rfl rfl (w2 := (ws_X11_takesSight cI cJ cZ cA q_M q_M_read q_M_text u_M_now u_M_images u_M_kept u_M_sign u_M_manyAbove u_M_manyBelow u_M_above u_M_below u_M_refused u_M_acts u_M_act u_M_waits u_M_wait u_M_held u_M_place u_M_heap u_M_clocks u_M_counts u_M_talking u_M_most u_M_hasA u_M_hasB u_M_talks u_M_big v_M_size v7.2.1 v7.2.2.1 v7.2.2.2.1 v7.2.2.2.2 (upd (upd (upd a_M_read ((95 + (a_M_read 6)).toNatClampNeg) v1.2.2.2.2.toInt32) ((105 + (a_M_read 6)).toNatClampNeg) v4.2.2.2.2.toInt32) 6 (((upd (upd a_M_read ((95 + (a_M_read 6)).toNatClampNeg) v1.2.2.2.2.toInt32) ((105 + (a_M_read 6)).toNatClampNeg) v4.2.2.2.2.toInt32) 6) + 1)) a_M_text)) rfl (st1 := [.int v7.1]) rfl (fun H locs hP hD hS => ?_)
        obtain ⟨hz01, hg⟩ := zck2 hg
        exact hret v7.1 v7.2.1 v7.2.2.1 v7.2.2.2.1 v7.2.2.2.2 (upd (upd (upd a_M_read ((95 + (a_M_read 6)).toNatClampNeg) v1.2.2.2.2.toInt32) ((105 + (a_M_read 6)).toNatClampNeg) v4.2.2.2.2.toInt32) 6 (((upd (upd a_M_read ((95 + (a_M_read 6)).toNatClampNeg) v1.2.2.2.2.toInt32) ((105 + (a_M_read 6)).toNatClampNeg) v4.2.2.2.2.toInt32) 6) + 1)) hg (zb01 hz01) _ _ _ _ hP hS dX11_takesSight_83
      · have hg := zp hg h49
        refine lv_iconst (v := 0) hx hb dX11_takesSight_52 (by decide) ?_
        exact hret 0 v4.2.1 v4.2.2.1 v4.2.2.2.1 v4.2.2.2.2 (upd a_M_read ((95 + (a_M_read 6)).toNatClampNeg) v1.2.2.2.2.toInt32) hg (zb01 (Or.inl rfl)) _ _ _ _ hP hS dX11_takesSight_53
    · have hg := zp hg h22
      refine lv_iconst (v := 0) hx hb dX11_takesSight_25 (by decide) ?_
      exact hret 0 v1.2.1 v1.2.2.1 v1.2.2.2.1 v1.2.2.2.2 a_M_read hg (zb01 (Or.inl rfl)) _ _ _ _ hP hS dX11_takesSight_26

/-! SpokenClockModel.takesAll()I -/
abbrev ws_X11_takesAll (cI cJ cZ cA : ClassId) (q_M q_M_read q_M_text q_M_now : Nat) (u_M_images : Value) (u_M_kept : Value) (u_M_sign : Value) (u_M_manyAbove : Value) (u_M_manyBelow : Value) (u_M_above : Value) (u_M_below : Value) (u_M_refused : Value) (u_M_acts : Value) (u_M_act : Value) (u_M_waits : Value) (u_M_wait : Value) (u_M_held : Value) (u_M_place : Value) (u_M_heap : Value) (u_M_clocks : Value) (u_M_counts : Value) (u_M_talking : Value) (u_M_most : Value) (u_M_hasA : Value) (u_M_hasB : Value) (u_M_talks : Value) (u_M_big : Value) (v_M_size : Int32) (v_M_at : Int32) (v_M_begin : Int32) (v_M_kind : Int32) (v_M_value : Int64) (a_M_read : Nat → Int32) (a_M_text : Nat → Int32) (a_M_now : Nat → Int32) : va_W := [(q_M, .inr (11, [.ref q_M_now, u_M_images, u_M_kept, .ref q_M_text, .int v_M_size, u_M_sign, u_M_manyAbove, u_M_manyBelow, u_M_above, u_M_below, u_M_refused, .int v_M_at, .int v_M_begin, .int v_M_kind, .long v_M_value, .ref q_M_read, u_M_acts, u_M_act, u_M_waits, u_M_wait, u_M_held, u_M_place, u_M_heap, u_M_clocks, u_M_counts, u_M_talking, u_M_most, u_M_hasA, u_M_hasB, u_M_talks, u_M_big])), (q_M_read, .inl (cI, 155, .inl a_M_read)), (q_M_text, .inl (cI, 250, .inl a_M_text)), (q_M_now, .inl (cI, 155, .inl a_M_now))]
abbrev rm_X11_takesAll : Room := { frames := 5, cells := 0, slots := 0, locals := 110 }
def g_X11_takesAll_258 (v_M_size : Int32) (a_M_text : Nat → Int32) (a_M_now : Nat → Int32) (k91 : Int32 → Int32 → Int32 → Int32 → Int64 → (Nat → Int32) → Option (Int32 × Int32 × Int32 × Int32 × Int64 × (Nat → Int32))) (x1 : Int32) (t0 : Int32) (v_M_at : Int32) (v_M_begin : Int32) (v_M_kind : Int32) (v_M_value : Int64) (a_M_read : Nat → Int32) : Option (Int32 × Int32 × Int32 × Int32 × Int64 × (Nat → Int32)) :=
  if t0 = 0 then (
    some ((-1), v_M_at, v_M_begin, v_M_kind, v_M_value, a_M_read)
  ) else (
    (g_X11_next v_M_size a_M_text v_M_at v_M_begin v_M_kind v_M_value).bind fun v3 =>
    k91 (x1 + 1) v3.1 v3.2.1 v3.2.2.1 v3.2.2.2 a_M_read
  )
def g_X11_takesAll_257 (v_M_size : Int32) (a_M_text : Nat → Int32) (a_M_now : Nat → Int32) (k91 : Int32 → Int32 → Int32 → Int32 → Int64 → (Nat → Int32) → Option (Int32 × Int32 × Int32 × Int32 × Int64 × (Nat → Int32))) (x1 : Int32) (v_M_at : Int32) (v_M_begin : Int32) (v_M_kind : Int32) (v_M_value : Int64) (a_M_read : Nat → Int32) : Option (Int32 × Int32 × Int32 × Int32 × Int64 × (Nat → Int32)) :=
  g_X11_takesAll_258 v_M_size a_M_text a_M_now k91 x1 0 v_M_at v_M_begin v_M_kind v_M_value a_M_read
def g_X11_takesAll_253 (v_M_size : Int32) (a_M_text : Nat → Int32) (a_M_now : Nat → Int32) (k91 : Int32 → Int32 → Int32 → Int32 → Int64 → (Nat → Int32) → Option (Int32 × Int32 × Int32 × Int32 × Int64 × (Nat → Int32))) (x1 : Int32) (v_M_at : Int32) (v_M_begin : Int32) (v_M_kind : Int32) (v_M_value : Int64) (a_M_read : Nat → Int32) : Option (Int32 × Int32 × Int32 × Int32 × Int64 × (Nat → Int32)) :=
  g_X11_takesAll_258 v_M_size a_M_text a_M_now k91 x1 1 v_M_at v_M_begin v_M_kind v_M_value a_M_read
def g_X11_takesAll_91b (v_M_size : Int32) (a_M_text : Nat → Int32) (a_M_now : Nat → Int32) (k91 : Int32 → Int32 → Int32 → Int32 → Int64 → (Nat → Int32) → Option (Int32 × Int32 × Int32 × Int32 × Int64 × (Nat → Int32))) (x1 : Int32) (v_M_at : Int32) (v_M_begin : Int32) (v_M_kind : Int32) (v_M_value : Int64) (a_M_read : Nat → Int32) : Option (Int32 × Int32 × Int32 × Int32 × Int64 × (Nat → Int32)) :=
  if v_M_kind = 0 then (
    some (x1, v_M_at, v_M_begin, v_M_kind, v_M_value, a_M_read)
  ) else (
    if v_M_kind = 1 then (
      if (lg_cmp v_M_value (198260 : Int64)) = 0 then (
        (g_X11_takesPut v_M_size a_M_text 0 v_M_at v_M_begin v_M_kind v_M_value a_M_read).bind fun v17 =>
        if v17.1 = 0 then (
          g_X11_takesAll_257 v_M_size a_M_text a_M_now k91 x1 v17.2.1 v17.2.2.1 v17.2.2.2.1 v17.2.2.2.2.1 v17.2.2.2.2.2
        ) else (
          g_X11_takesAll_253 v_M_size a_M_text a_M_now k91 x1 v17.2.1 v17.2.2.1 v17.2.2.2.1 v17.2.2.2.2.1 v17.2.2.2.2.2
        )
      ) else (
        if (lg_cmp v_M_value (20429043 : Int64)) = 0 then (
          (g_X11_takesPut v_M_size a_M_text 1 v_M_at v_M_begin v_M_kind v_M_value a_M_read).bind fun v15 =>
          if v15.1 = 0 then (
            g_X11_takesAll_257 v_M_size a_M_text a_M_now k91 x1 v15.2.1 v15.2.2.1 v15.2.2.2.1 v15.2.2.2.2.1 v15.2.2.2.2.2
          ) else (
            g_X11_takesAll_253 v_M_size a_M_text a_M_now k91 x1 v15.2.1 v15.2.2.1 v15.2.2.2.1 v15.2.2.2.2.1 v15.2.2.2.2.2
          )
        ) else (
          if (lg_cmp v_M_value (2212 : Int64)) = 0 then (
            (g_X11_takesPut v_M_size a_M_text 2 v_M_at v_M_begin v_M_kind v_M_value a_M_read).bind fun v13 =>
            if v13.1 = 0 then (
              g_X11_takesAll_257 v_M_size a_M_text a_M_now k91 x1 v13.2.1 v13.2.2.1 v13.2.2.2.1 v13.2.2.2.2.1 v13.2.2.2.2.2
            ) else (
              g_X11_takesAll_253 v_M_size a_M_text a_M_now k91 x1 v13.2.1 v13.2.2.1 v13.2.2.2.1 v13.2.2.2.2.1 v13.2.2.2.2.2
            )
          ) else (
            if (lg_cmp v_M_value (542723566 : Int64)) = 0 then (
              (g_X11_takesPerson v_M_size a_M_text v_M_at v_M_begin v_M_kind v_M_value a_M_read).bind fun v11 =>
              if v11.1 = 0 then (
                g_X11_takesAll_257 v_M_size a_M_text a_M_now k91 x1 v11.2.1 v11.2.2.1 v11.2.2.2.1 v11.2.2.2.2.1 v11.2.2.2.2.2
              ) else (
                g_X11_takesAll_253 v_M_size a_M_text a_M_now k91 x1 v11.2.1 v11.2.2.1 v11.2.2.2.1 v11.2.2.2.2.1 v11.2.2.2.2.2
              )
            ) else (
              if (lg_cmp v_M_value (656779 : Int64)) = 0 then (
                (g_X11_takesTalk v_M_size a_M_text v_M_at v_M_begin v_M_kind v_M_value a_M_read).bind fun v9 =>
                if v9.1 = 0 then (
                  g_X11_takesAll_257 v_M_size a_M_text a_M_now k91 x1 v9.2.1 v9.2.2.1 v9.2.2.2.1 v9.2.2.2.2.1 v9.2.2.2.2.2
                ) else (
                  g_X11_takesAll_253 v_M_size a_M_text a_M_now k91 x1 v9.2.1 v9.2.2.1 v9.2.2.2.1 v9.2.2.2.2.1 v9.2.2.2.2.2
                )
              ) else (
                if (lg_cmp v_M_value (4773 : Int64)) = 0 then (
                  (g_X11_takesDue v_M_size a_M_text v_M_at v_M_begin v_M_kind v_M_value a_M_read).bind fun v7 =>
                  if v7.1 = 0 then (
                    g_X11_takesAll_257 v_M_size a_M_text a_M_now k91 x1 v7.2.1 v7.2.2.1 v7.2.2.2.1 v7.2.2.2.2.1 v7.2.2.2.2.2
                  ) else (
                    g_X11_takesAll_253 v_M_size a_M_text a_M_now k91 x1 v7.2.1 v7.2.2.1 v7.2.2.2.1 v7.2.2.2.2.1 v7.2.2.2.2.2
                  )
                ) else (
                  if (lg_cmp v_M_value (20225300 : Int64)) = 0 then (
                    (g_X11_takesSight v_M_size a_M_text v_M_at v_M_begin v_M_kind v_M_value a_M_read).bind fun v5 =>
                    if v5.1 = 0 then (
                      g_X11_takesAll_257 v_M_size a_M_text a_M_now k91 x1 v5.2.1 v5.2.2.1 v5.2.2.2.1 v5.2.2.2.2.1 v5.2.2.2.2.2
                    ) else (
                      g_X11_takesAll_253 v_M_size a_M_text a_M_now k91 x1 v5.2.1 v5.2.2.1 v5.2.2.2.1 v5.2.2.2.2.1 v5.2.2.2.2.2
                    )
                  ) else (
                    g_X11_takesAll_257 v_M_size a_M_text a_M_now k91 x1 v_M_at v_M_begin v_M_kind v_M_value a_M_read
                  )
                )
              )
            )
          )
        )
      )
    ) else (
      g_X11_takesAll_257 v_M_size a_M_text a_M_now k91 x1 v_M_at v_M_begin v_M_kind v_M_value a_M_read
    )
  )
def g_X11_takesAll_91 (v_M_size : Int32) (a_M_text : Nat → Int32) (a_M_now : Nat → Int32) : Nat → Int32 → Int32 → Int32 → Int32 → Int64 → (Nat → Int32) → Option (Int32 × Int32 × Int32 × Int32 × Int64 × (Nat → Int32))
  | 0, _, _, _, _, _, _ => none
  | n + 1, x1, v_M_at, v_M_begin, v_M_kind, v_M_value, a_M_read => g_X11_takesAll_91b v_M_size a_M_text a_M_now (g_X11_takesAll_91 v_M_size a_M_text a_M_now n) x1 v_M_at v_M_begin v_M_kind v_M_value a_M_read
def g_X11_takesAll_61b (v_M_size : Int32) (a_M_text : Nat → Int32) (a_M_now : Nat → Int32) (k61 : Int32 → Int32 → Int32 → Int32 → Int64 → (Nat → Int32) → Option (Int32 × Int32 × Int32 × Int32 × Int64 × (Nat → Int32))) (x1 : Int32) (v_M_at : Int32) (v_M_begin : Int32) (v_M_kind : Int32) (v_M_value : Int64) (a_M_read : Nat → Int32) : Option (Int32 × Int32 × Int32 × Int32 × Int64 × (Nat → Int32)) :=
  if 6 < x1 then (
    (g_X11_next v_M_size a_M_text 0 v_M_begin v_M_kind v_M_value).bind fun v1 =>
    g_X11_takesAll_91 v_M_size a_M_text a_M_now zF 0 v1.1 v1.2.1 v1.2.2.1 v1.2.2.2 a_M_read
  ) else (
    if x1 < 0 ∨ 155 ≤ x1.toNatClampNeg then none else
    k61 (x1 + 1) v_M_at v_M_begin v_M_kind v_M_value (upd a_M_read (x1.toNatClampNeg) 0)
  )
def g_X11_takesAll_61 (v_M_size : Int32) (a_M_text : Nat → Int32) (a_M_now : Nat → Int32) : Nat → Int32 → Int32 → Int32 → Int32 → Int64 → (Nat → Int32) → Option (Int32 × Int32 × Int32 × Int32 × Int64 × (Nat → Int32))
  | 0, _, _, _, _, _, _ => none
  | n + 1, x1, v_M_at, v_M_begin, v_M_kind, v_M_value, a_M_read => g_X11_takesAll_61b v_M_size a_M_text a_M_now (g_X11_takesAll_61 v_M_size a_M_text a_M_now n) x1 v_M_at v_M_begin v_M_kind v_M_value a_M_read
def g_X11_takesAll_30 (v_M_size : Int32) (a_M_text : Nat → Int32) (a_M_now : Nat → Int32) (k2 : Int32 → Int32 → Int32 → Int32 → Int64 → (Nat → Int32) → Option (Int32 × Int32 × Int32 × Int32 × Int64 × (Nat → Int32))) (x1 : Int32) (t1 : Int32) (t2 : Int32) (v_M_at : Int32) (v_M_begin : Int32) (v_M_kind : Int32) (v_M_value : Int64) (a_M_read : Nat → Int32) : Option (Int32 × Int32 × Int32 × Int32 × Int64 × (Nat → Int32)) :=
  if t1 < 0 ∨ 155 ≤ t1.toNatClampNeg then none else
  k2 (x1 + 1) v_M_at v_M_begin v_M_kind v_M_value (upd a_M_read (t1.toNatClampNeg) t2)
def g_X11_takesAll_2b (v_M_size : Int32) (a_M_text : Nat → Int32) (a_M_now : Nat → Int32) (k2 : Int32 → Int32 → Int32 → Int32 → Int64 → (Nat → Int32) → Option (Int32 × Int32 × Int32 × Int32 × Int64 × (Nat → Int32))) (x1 : Int32) (v_M_at : Int32) (v_M_begin : Int32) (v_M_kind : Int32) (v_M_value : Int64) (a_M_read : Nat → Int32) : Option (Int32 × Int32 × Int32 × Int32 × Int64 × (Nat → Int32)) :=
  if 155 ≤ x1 then (
    g_X11_takesAll_61 v_M_size a_M_text a_M_now zF 3 v_M_at v_M_begin v_M_kind v_M_value (upd (upd (upd a_M_read 0 1) 1 0) 2 60)
  ) else (
    if 13 ≤ x1 then (
      g_X11_takesAll_30 v_M_size a_M_text a_M_now k2 x1 x1 0 v_M_at v_M_begin v_M_kind v_M_value a_M_read
    ) else (
      if x1 < 0 ∨ 155 ≤ x1.toNatClampNeg then none else
      g_X11_takesAll_30 v_M_size a_M_text a_M_now k2 x1 x1 (a_M_now (x1.toNatClampNeg)) v_M_at v_M_begin v_M_kind v_M_value a_M_read
    )
  )
def g_X11_takesAll_2 (v_M_size : Int32) (a_M_text : Nat → Int32) (a_M_now : Nat → Int32) : Nat → Int32 → Int32 → Int32 → Int32 → Int64 → (Nat → Int32) → Option (Int32 × Int32 × Int32 × Int32 × Int64 × (Nat → Int32))
  | 0, _, _, _, _, _, _ => none
  | n + 1, x1, v_M_at, v_M_begin, v_M_kind, v_M_value, a_M_read => g_X11_takesAll_2b v_M_size a_M_text a_M_now (g_X11_takesAll_2 v_M_size a_M_text a_M_now n) x1 v_M_at v_M_begin v_M_kind v_M_value a_M_read
def g_X11_takesAll (v_M_size : Int32) (a_M_text : Nat → Int32) (a_M_now : Nat → Int32) (v_M_at : Int32) (v_M_begin : Int32) (v_M_kind : Int32) (v_M_value : Int64) (a_M_read : Nat → Int32) : Option (Int32 × Int32 × Int32 × Int32 × Int64 × (Nat → Int32)) :=
  g_X11_takesAll_2 v_M_size a_M_text a_M_now zF 0 v_M_at v_M_begin v_M_kind v_M_value a_M_read
theorem hd_X11_takesAll : yX11_takesAll.cls = RX11 ∧ yX11_takesAll.cls ≠ "java/lang/invoke/MethodHandle" ∧ yX11_takesAll.cls ≠ "java/lang/invoke/VarHandle" ∧ (parseMethodDescriptor yX11_takesAll.desc).map (fun d => d.parameters.length) = some 0 := by decide +kernel
set_option maxHeartbeats 4000000 in
set_option maxRecDepth 100000 in
theorem c_X11_takesAll (l : Launch) (D : va_G) (cI cJ cZ cA : ClassId) (ga : Nat → Nat) (q_M q_M_read q_M_text q_M_now : Nat) (u_M_images : Value) (u_M_kept : Value) (u_M_sign : Value) (u_M_manyAbove : Value) (u_M_manyBelow : Value) (u_M_above : Value) (u_M_below : Value) (u_M_refused : Value) (u_M_acts : Value) (u_M_act : Value) (u_M_waits : Value) (u_M_wait : Value) (u_M_held : Value) (u_M_place : Value) (u_M_heap : Value) (u_M_clocks : Value) (u_M_counts : Value) (u_M_talking : Value) (u_M_most : Value) (u_M_hasA : Value) (u_M_hasB : Value) (u_M_talks : Value) (u_M_big : Value) (v_M_size : Int32) (v_M_at : Int32) (v_M_begin : Int32) (v_M_kind : Int32) (v_M_value : Int64) (a_M_read : Nat → Int32) (a_M_text : Nat → Int32) (a_M_now : Nat → Int32) (o : Int32 × Int32 × Int32 × Int32 × Int64 × (Nat → Int32)) (hg : g_X11_takesAll v_M_size a_M_text a_M_now v_M_at v_M_begin v_M_kind v_M_value a_M_read = some o) : zM l yX11_takesAll (Cond.code yX11_takesAll cX11_takesAll 3 (some .int) :: wsL_law) rm_X11_takesAll D (zTy cI cJ cZ cA) ga [.ref q_M] (ws_X11_takesAll cI cJ cZ cA q_M q_M_read q_M_text q_M_now u_M_images u_M_kept u_M_sign u_M_manyAbove u_M_manyBelow u_M_above u_M_below u_M_refused u_M_acts u_M_act u_M_waits u_M_wait u_M_held u_M_place u_M_heap u_M_clocks u_M_counts u_M_talking u_M_most u_M_hasA u_M_hasB u_M_talks u_M_big v_M_size v_M_at v_M_begin v_M_kind v_M_value a_M_read a_M_text a_M_now) (ws_X11_takesAll cI cJ cZ cA q_M q_M_read q_M_text q_M_now u_M_images u_M_kept u_M_sign u_M_manyAbove u_M_manyBelow u_M_above u_M_below u_M_refused u_M_acts u_M_act u_M_waits u_M_wait u_M_held u_M_place u_M_heap u_M_clocks u_M_counts u_M_talking u_M_most u_M_hasA u_M_hasB u_M_talks u_M_big v_M_size o.2.1 o.2.2.1 o.2.2.2.1 o.2.2.2.2.1 o.2.2.2.2.2 a_M_text a_M_now) (some (.int o.1)) := by
  refine zenterI (own := RX11) (by decide) rfl rfl (Nat.le_of_ble_eq_true rfl) ?_
  intro p e s m args below meth c A ls Q S hA hK hG hl hP hD hS hret0
  have hx := S.1
  have hb := S.2.1
  have ht : ∀ w, w ∈ wsL_law → w.before args s = true := fun w h => S.2.2.2.2 w (List.mem_cons_of_mem _ h)
  have hret : ∀ (r9 : Int32) (v_M_at : Int32) (v_M_begin : Int32) (v_M_kind : Int32) (v_M_value : Int64) (a_M_read : Nat → Int32), (some (r9, v_M_at, v_M_begin, v_M_kind, v_M_value, a_M_read) : Option (Int32 × Int32 × Int32 × Int32 × Int64 × (Nat → Int32))) = some o → ∀ (H : Heap) (locs : List Loc) (pc : Nat) (ls : Array Slot), va_P D vwCl (ws_X11_takesAll cI cJ cZ cA q_M q_M_read q_M_text q_M_now u_M_images u_M_kept u_M_sign u_M_manyAbove u_M_manyBelow u_M_above u_M_below u_M_refused u_M_acts u_M_act u_M_waits u_M_wait u_M_held u_M_place u_M_heap u_M_clocks u_M_counts u_M_talking u_M_most u_M_hasA u_M_hasB u_M_talks u_M_big v_M_size v_M_at v_M_begin v_M_kind v_M_value a_M_read a_M_text a_M_now) H → va_S A s.heap H locs → decode cX11_takesAll pc = .ok (.ireturn, 1) → W p l e rm_X11_takesAll s m args below meth c H locs 0 0 Q (F0 m pc ls [.int r9]) := by
    intro r9 v_M_at v_M_begin v_M_kind v_M_value a_M_read he; cases he; exact hret0
  have hl : lv_has ls 3 [(0, .ref q_M)] := hl
  have B258 : ∀ (k91 : Int32 → Int32 → Int32 → Int32 → Int64 → (Nat → Int32) → Option (Int32 × Int32 × Int32 × Int32 × Int64 × (Nat → Int32))) (hk91 : ∀ (x1 : Int32) (v_M_at : Int32) (v_M_begin : Int32) (v_M_kind : Int32) (v_M_value : Int64) (a_M_read : Nat → Int32) (H : Heap) (locs : List Loc) (ls : Array Slot) (hl : lv_has ls 3 [(0, .ref q_M), (1, .int x1)]) (hP : va_P D vwCl (ws_X11_takesAll cI cJ cZ cA q_M q_M_read q_M_text q_M_now u_M_images u_M_kept u_M_sign u_M_manyAbove u_M_manyBelow u_M_above u_M_below u_M_refused u_M_acts u_M_act u_M_waits u_M_wait u_M_held u_M_place u_M_heap u_M_clocks u_M_counts u_M_talking u_M_most u_M_hasA u_M_hasB u_M_talks u_M_big v_M_size v_M_at v_M_begin v_M_kind v_M_value a_M_read a_M_text a_M_now) H) (hD : va_D A (ws_X11_takesAll cI cJ cZ cA q_M q_M_read q_M_text q_M_now u_M_images u_M_kept u_M_sign u_M_manyAbove u_M_manyBelow u_M_above u_M_below u_M_refused u_M_acts u_M_act u_M_waits u_M_wait u_M_held u_M_place u_M_heap u_M_clocks u_M_counts u_M_talking u_M_most u_M_hasA u_M_hasB u_M_talks u_M_big v_M_size v_M_at v_M_begin v_M_kind v_M_value a_M_read a_M_text a_M_now)) (hS : va_S A s.heap H locs), k91 x1 v_M_at v_M_begin v_M_kind v_M_value a_M_read = some o → W p l e rm_X11_takesAll s m args below meth c H locs 0 0 Q (F0 m 91 ls [])) (x1 : Int32) (t0 : Int32) (v_M_at : Int32) (v_M_begin : Int32) (v_M_kind : Int32) (v_M_value : Int64) (a_M_read : Nat → Int32) (H : Heap) (locs : List Loc) (ls : Array Slot) (hl : lv_has ls 3 [(0, .ref q_M), (1, .int x1)]) (hP : va_P D vwCl (ws_X11_takesAll cI cJ cZ cA q_M q_M_read q_M_text q_M_now u_M_images u_M_kept u_M_sign u_M_manyAbove u_M_manyBelow u_M_above u_M_below u_M_refused u_M_acts u_M_act u_M_waits u_M_wait u_M_held u_M_place u_M_heap u_M_clocks u_M_counts u_M_talking u_M_most u_M_hasA u_M_hasB u_M_talks u_M_big v_M_size v_M_at v_M_begin v_M_kind v_M_value a_M_read a_M_text a_M_now) H) (hD : va_D A (ws_X11_takesAll cI cJ cZ cA q_M q_M_read q_M_text q_M_now u_M_images u_M_kept u_M_sign u_M_manyAbove u_M_manyBelow u_M_above u_M_below u_M_refused u_M_acts u_M_act u_M_waits u_M_wait u_M_held u_M_place u_M_heap u_M_clocks u_M_counts u_M_talking u_M_most u_M_hasA u_M_hasB u_M_talks u_M_big v_M_size v_M_at v_M_begin v_M_kind v_M_value a_M_read a_M_text a_M_now)) (hS : va_S A s.heap H locs), g_X11_takesAll_258 v_M_size a_M_text a_M_now k91 x1 t0 v_M_at v_M_begin v_M_kind v_M_value a_M_read = some o → W p l e rm_X11_takesAll s m args below meth c H locs 0 0 Q (F0 m 258 ls [.int t0]) := by
    intro k91 hk91 x1 t0 v_M_at v_M_begin v_M_kind v_M_value a_M_read H locs ls hl hP hD hS hg
    refine lv_istore_n (lv' := [(2, .int t0), (0, .ref q_M), (1, .int x1)]) hx hb dX11_takesAll_258 rfl hl (by decide) rfl (fun ls hl => ?_)
    refine lv_iload_n hx hb dX11_takesAll_259 rfl (lv_at hl 0 rfl) ?_
    refine lv_if_ne (tgt := 265) hx hb dX11_takesAll_260 (by decide) (fun h260 => ?_) (fun h260 => ?_)
    · have hg := zn hg h260
      refine lv_iinc (k := 2) (v := x1 + 1) (lv' := [(1, .int (x1 + 1)), (2, .int t0), (0, .ref q_M)]) hx hb dX11_takesAll_265 hl rfl (zinc (by decide)) (by decide) rfl (fun ls hl => ?_)
      refine lv_aload_n hx hb dX11_takesAll_268 rfl (lv_at hl 2 rfl) ?_
      obtain ⟨v3, hc4, hg⟩ := zbd hg
      refine zcallV (rest := []) S (c_X11_next l D cI cJ cZ cA ga q_M q_M_text (.ref q_M_now) u_M_images u_M_kept u_M_sign u_M_manyAbove u_M_manyBelow u_M_above u_M_below u_M_refused (.ref q_M_read) u_M_acts u_M_act u_M_waits u_M_wait u_M_held u_M_place u_M_heap u_M_clocks u_M_counts u_M_talking u_M_most u_M_hasA u_M_hasB u_M_talks u_M_big v_M_size v_M_at v_M_begin v_M_kind v_M_value a_M_text v3 hc4) (zgV zw_464 zw_465 zw_466 zw_5 zw_467) rfl hd_X11_next ⟨rfl, rfl⟩ ⟨Nat.le_of_ble_eq_true rfl, Nat.le_of_ble_eq_true rfl⟩ 0 11 rfl rfl rfl hl.1 rfl (Nat.le_of_ble_eq_true rfl) dX11_takesAll_269 hP hD hS hA hK hG (isC := [0, 2]) rfl rfl rfl (w2 := (ws_X11_takesAll cI cJ cZ cA q_M q_M_read q_M_text q_M_now u_M_images u_M_kept u_M_sign u_M_manyAbove u_M_manyBelow u_M_above u_M_below u_M_refused u_M_acts u_M_act u_M_waits u_M_wait u_M_held u_M_place u_M_heap u_M_clocks u_M_counts u_M_talking u_M_most u_M_hasA u_M_hasB u_M_talks u_M_big v_M_size v3.1 v3.2.1 v3.2.2.1 v3.2.2.2 a_M_read a_M_text a_M_now)) rfl (st1 := []) rfl (fun H locs hP hD hS => ?_)
      refine lv_goto (tgt := 91) hx hb dX11_takesAll_272 (by decide) ?_
      exact hk91 (x1 + 1) v3.1 v3.2.1 v3.2.2.1 v3.2.2.2 a_M_read _ _ _ (lv_sub hl [2, 0] rfl) hP hD hS hg
    · have hg := zp hg h260
      refine lv_iconst (v := (-1)) hx hb dX11_takesAll_263 (by decide) ?_
      exact hret (-1) v_M_at v_M_begin v_M_kind v_M_value a_M_read hg _ _ _ _ hP hS dX11_takesAll_264
  have B257 : ∀ (k91 : Int32 → Int32 → Int32 → Int32 → Int64 → (Nat → Int32) → Option (Int32 × Int32 × Int32 × Int32 × Int64 × (Nat → Int32))) (hk91 : ∀ (x1 : Int32) (v_M_at : Int32) (v_M_begin : Int32) (v_M_kind : Int32) (v_M_value : Int64) (a_M_read : Nat → Int32) (H : Heap) (locs : List Loc) (ls : Array Slot) (hl : lv_has ls 3 [(0, .ref q_M), (1, .int x1)]) (hP : va_P D vwCl (ws_X11_takesAll cI cJ cZ cA q_M q_M_read q_M_text q_M_now u_M_images u_M_kept u_M_sign u_M_manyAbove u_M_manyBelow u_M_above u_M_below u_M_refused u_M_acts u_M_act u_M_waits u_M_wait u_M_held u_M_place u_M_heap u_M_clocks u_M_counts u_M_talking u_M_most u_M_hasA u_M_hasB u_M_talks u_M_big v_M_size v_M_at v_M_begin v_M_kind v_M_value a_M_read a_M_text a_M_now) H) (hD : va_D A (ws_X11_takesAll cI cJ cZ cA q_M q_M_read q_M_text q_M_now u_M_images u_M_kept u_M_sign u_M_manyAbove u_M_manyBelow u_M_above u_M_below u_M_refused u_M_acts u_M_act u_M_waits u_M_wait u_M_held u_M_place u_M_heap u_M_clocks u_M_counts u_M_talking u_M_most u_M_hasA u_M_hasB u_M_talks u_M_big v_M_size v_M_at v_M_begin v_M_kind v_M_value a_M_read a_M_text a_M_now)) (hS : va_S A s.heap H locs), k91 x1 v_M_at v_M_begin v_M_kind v_M_value a_M_read = some o → W p l e rm_X11_takesAll s m args below meth c H locs 0 0 Q (F0 m 91 ls [])) (x1 : Int32) (v_M_at : Int32) (v_M_begin : Int32) (v_M_kind : Int32) (v_M_value : Int64) (a_M_read : Nat → Int32) (H : Heap) (locs : List Loc) (ls : Array Slot) (hl : lv_has ls 3 [(0, .ref q_M), (1, .int x1)]) (hP : va_P D vwCl (ws_X11_takesAll cI cJ cZ cA q_M q_M_read q_M_text q_M_now u_M_images u_M_kept u_M_sign u_M_manyAbove u_M_manyBelow u_M_above u_M_below u_M_refused u_M_acts u_M_act u_M_waits u_M_wait u_M_held u_M_place u_M_heap u_M_clocks u_M_counts u_M_talking u_M_most u_M_hasA u_M_hasB u_M_talks u_M_big v_M_size v_M_at v_M_begin v_M_kind v_M_value a_M_read a_M_text a_M_now) H) (hD : va_D A (ws_X11_takesAll cI cJ cZ cA q_M q_M_read q_M_text q_M_now u_M_images u_M_kept u_M_sign u_M_manyAbove u_M_manyBelow u_M_above u_M_below u_M_refused u_M_acts u_M_act u_M_waits u_M_wait u_M_held u_M_place u_M_heap u_M_clocks u_M_counts u_M_talking u_M_most u_M_hasA u_M_hasB u_M_talks u_M_big v_M_size v_M_at v_M_begin v_M_kind v_M_value a_M_read a_M_text a_M_now)) (hS : va_S A s.heap H locs), g_X11_takesAll_257 v_M_size a_M_text a_M_now k91 x1 v_M_at v_M_begin v_M_kind v_M_value a_M_read = some o → W p l e rm_X11_takesAll s m args below meth c H locs 0 0 Q (F0 m 257 ls []) := by
    intro k91 hk91 x1 v_M_at v_M_begin v_M_kind v_M_value a_M_read H locs ls hl hP hD hS hg
    refine lv_iconst (v := 0) hx hb dX11_takesAll_257 (by decide) ?_
    exact B258 k91 hk91 x1 0 v_M_at v_M_begin v_M_kind v_M_value a_M_read _ _ _ hl hP hD hS hg
  have B253 : ∀ (k91 : Int32 → Int32 → Int32 → Int32 → Int64 → (Nat → Int32) → Option (Int32 × Int32 × Int32 × Int32 × Int64 × (Nat → Int32))) (hk91 : ∀ (x1 : Int32) (v_M_at : Int32) (v_M_begin : Int32) (v_M_kind : Int32) (v_M_value : Int64) (a_M_read : Nat → Int32) (H : Heap) (locs : List Loc) (ls : Array Slot) (hl : lv_has ls 3 [(0, .ref q_M), (1, .int x1)]) (hP : va_P D vwCl (ws_X11_takesAll cI cJ cZ cA q_M q_M_read q_M_text q_M_now u_M_images u_M_kept u_M_sign u_M_manyAbove u_M_manyBelow u_M_above u_M_below u_M_refused u_M_acts u_M_act u_M_waits u_M_wait u_M_held u_M_place u_M_heap u_M_clocks u_M_counts u_M_talking u_M_most u_M_hasA u_M_hasB u_M_talks u_M_big v_M_size v_M_at v_M_begin v_M_kind v_M_value a_M_read a_M_text a_M_now) H) (hD : va_D A (ws_X11_takesAll cI cJ cZ cA q_M q_M_read q_M_text q_M_now u_M_images u_M_kept u_M_sign u_M_manyAbove u_M_manyBelow u_M_above u_M_below u_M_refused u_M_acts u_M_act u_M_waits u_M_wait u_M_held u_M_place u_M_heap u_M_clocks u_M_counts u_M_talking u_M_most u_M_hasA u_M_hasB u_M_talks u_M_big v_M_size v_M_at v_M_begin v_M_kind v_M_value a_M_read a_M_text a_M_now)) (hS : va_S A s.heap H locs), k91 x1 v_M_at v_M_begin v_M_kind v_M_value a_M_read = some o → W p l e rm_X11_takesAll s m args below meth c H locs 0 0 Q (F0 m 91 ls [])) (x1 : Int32) (v_M_at : Int32) (v_M_begin : Int32) (v_M_kind : Int32) (v_M_value : Int64) (a_M_read : Nat → Int32) (H : Heap) (locs : List Loc) (ls : Array Slot) (hl : lv_has ls 3 [(0, .ref q_M), (1, .int x1)]) (hP : va_P D vwCl (ws_X11_takesAll cI cJ cZ cA q_M q_M_read q_M_text q_M_now u_M_images u_M_kept u_M_sign u_M_manyAbove u_M_manyBelow u_M_above u_M_below u_M_refused u_M_acts u_M_act u_M_waits u_M_wait u_M_held u_M_place u_M_heap u_M_clocks u_M_counts u_M_talking u_M_most u_M_hasA u_M_hasB u_M_talks u_M_big v_M_size v_M_at v_M_begin v_M_kind v_M_value a_M_read a_M_text a_M_now) H) (hD : va_D A (ws_X11_takesAll cI cJ cZ cA q_M q_M_read q_M_text q_M_now u_M_images u_M_kept u_M_sign u_M_manyAbove u_M_manyBelow u_M_above u_M_below u_M_refused u_M_acts u_M_act u_M_waits u_M_wait u_M_held u_M_place u_M_heap u_M_clocks u_M_counts u_M_talking u_M_most u_M_hasA u_M_hasB u_M_talks u_M_big v_M_size v_M_at v_M_begin v_M_kind v_M_value a_M_read a_M_text a_M_now)) (hS : va_S A s.heap H locs), g_X11_takesAll_253 v_M_size a_M_text a_M_now k91 x1 v_M_at v_M_begin v_M_kind v_M_value a_M_read = some o → W p l e rm_X11_takesAll s m args below meth c H locs 0 0 Q (F0 m 253 ls []) := by
    intro k91 hk91 x1 v_M_at v_M_begin v_M_kind v_M_value a_M_read H locs ls hl hP hD hS hg
    refine lv_iconst (v := 1) hx hb dX11_takesAll_253 (by decide) ?_
    refine lv_goto (tgt := 258) hx hb dX11_takesAll_254 (by decide) ?_
    exact B258 k91 hk91 x1 1 v_M_at v_M_begin v_M_kind v_M_value a_M_read _ _ _ hl hP hD hS hg
  have B91 : ∀  (n : Nat) (x1 : Int32) (v_M_at : Int32) (v_M_begin : Int32) (v_M_kind : Int32) (v_M_value : Int64) (a_M_read : Nat → Int32) (H : Heap) (locs : List Loc) (ls : Array Slot) (hl : lv_has ls 3 [(0, .ref q_M), (1, .int x1)]) (hP : va_P D vwCl (ws_X11_takesAll cI cJ cZ cA q_M q_M_read q_M_text q_M_now u_M_images u_M_kept u_M_sign u_M_manyAbove u_M_manyBelow u_M_above u_M_below u_M_refused u_M_acts u_M_act u_M_waits u_M_wait u_M_held u_M_place u_M_heap u_M_clocks u_M_counts u_M_talking u_M_most u_M_hasA u_M_hasB u_M_talks u_M_big v_M_size v_M_at v_M_begin v_M_kind v_M_value a_M_read a_M_text a_M_now) H) (hD : va_D A (ws_X11_takesAll cI cJ cZ cA q_M q_M_read q_M_text q_M_now u_M_images u_M_kept u_M_sign u_M_manyAbove u_M_manyBelow u_M_above u_M_below u_M_refused u_M_acts u_M_act u_M_waits u_M_wait u_M_held u_M_place u_M_heap u_M_clocks u_M_counts u_M_talking u_M_most u_M_hasA u_M_hasB u_M_talks u_M_big v_M_size v_M_at v_M_begin v_M_kind v_M_value a_M_read a_M_text a_M_now)) (hS : va_S A s.heap H locs), g_X11_takesAll_91 v_M_size a_M_text a_M_now n x1 v_M_at v_M_begin v_M_kind v_M_value a_M_read = some o → W p l e rm_X11_takesAll s m args below meth c H locs 0 0 Q (F0 m 91 ls []) := by
    intro  n
    induction n with
    | zero => intro x1 v_M_at v_M_begin v_M_kind v_M_value a_M_read H locs ls hl hP hD hS hg; exact nomatch (show (none : Option (Int32 × Int32 × Int32 × Int32 × Int64 × (Nat → Int32))) = some o from hg)
    | succ n ih =>
      intro x1 v_M_at v_M_begin v_M_kind v_M_value a_M_read H locs ls hl hP hD hS hg
      have hg : g_X11_takesAll_91b v_M_size a_M_text a_M_now (g_X11_takesAll_91 v_M_size a_M_text a_M_now n) x1 v_M_at v_M_begin v_M_kind v_M_value a_M_read = some o := hg
      refine lv_aload_n hx hb dX11_takesAll_91 rfl (lv_at hl 0 rfl) ?_
      refine zget (C := RX11) (T := TX11) (N := 31) S hK hP 0 rfl rfl 13 (Nat.le_of_ble_eq_true rfl) zf_11 zw_455 rfl dX11_takesAll_92 ?_
      refine lv_if_eq (tgt := 275) hx hb dX11_takesAll_95 (by decide) (fun h95 => ?_) (fun h95 => ?_)
      · have hg := zp hg h95
        refine lv_iload_n hx hb dX11_takesAll_275 rfl (lv_at hl 1 rfl) ?_
        exact hret x1 v_M_at v_M_begin v_M_kind v_M_value a_M_read hg _ _ _ _ hP hS dX11_takesAll_276
      · have hg := zn hg h95
        refine lv_aload_n hx hb dX11_takesAll_98 rfl (lv_at hl 0 rfl) ?_
        refine zget (C := RX11) (T := TX11) (N := 31) S hK hP 0 rfl rfl 13 (Nat.le_of_ble_eq_true rfl) zf_11 zw_455 rfl dX11_takesAll_99 ?_
        refine lv_iconst (v := 1) hx hb dX11_takesAll_102 (by decide) ?_
        refine lv_icmp_ne (tgt := 257) hx hb dX11_takesAll_103 (by decide) (fun h103 => ?_) (fun h103 => ?_)
        · have hg := zn hg h103
          exact B257 (g_X11_takesAll_91 v_M_size a_M_text a_M_now n) ih x1 v_M_at v_M_begin v_M_kind v_M_value a_M_read _ _ _ hl hP hD hS hg
        · have hg := zp hg h103
          refine lv_aload_n hx hb dX11_takesAll_106 rfl (lv_at hl 0 rfl) ?_
          refine zget (C := RX11) (T := TX11) (N := 31) S hK hP 0 rfl rfl 14 (Nat.le_of_ble_eq_true rfl) zf_11 zw_456 rfl dX11_takesAll_107 ?_
          refine lv_ldc2 (v := 198260) hx hb S.2.2.2.1 (ht _ zw_457) dX11_takesAll_110 ?_
          refine W.lcmp hx hb dX11_takesAll_113 ?_
          refine lv_if_ne (tgt := 128) hx hb dX11_takesAll_114 (by decide) (fun h114 => ?_) (fun h114 => ?_)
          · have hg := zn hg h114
            refine lv_aload_n hx hb dX11_takesAll_128 rfl (lv_at hl 0 rfl) ?_
            refine zget (C := RX11) (T := TX11) (N := 31) S hK hP 0 rfl rfl 14 (Nat.le_of_ble_eq_true rfl) zf_11 zw_456 rfl dX11_takesAll_129 ?_
            refine lv_ldc2 (v := 20429043) hx hb S.2.2.2.1 (ht _ zw_458) dX11_takesAll_132 ?_
            refine W.lcmp hx hb dX11_takesAll_135 ?_
            refine lv_if_ne (tgt := 150) hx hb dX11_takesAll_136 (by decide) (fun h136 => ?_) (fun h136 => ?_)
            · have hg := zn hg h136
              refine lv_aload_n hx hb dX11_takesAll_150 rfl (lv_at hl 0 rfl) ?_
              refine zget (C := RX11) (T := TX11) (N := 31) S hK hP 0 rfl rfl 14 (Nat.le_of_ble_eq_true rfl) zf_11 zw_456 rfl dX11_takesAll_151 ?_
              refine lv_ldc2 (v := 2212) hx hb S.2.2.2.1 (ht _ zw_459) dX11_takesAll_154 ?_
              refine W.lcmp hx hb dX11_takesAll_157 ?_
              refine lv_if_ne (tgt := 172) hx hb dX11_takesAll_158 (by decide) (fun h158 => ?_) (fun h158 => ?_)
              · have hg := zn hg h158
                refine lv_aload_n hx hb dX11_takesAll_172 rfl (lv_at hl 0 rfl) ?_
                refine zget (C := RX11) (T := TX11) (N := 31) S hK hP 0 rfl rfl 14 (Nat.le_of_ble_eq_true rfl) zf_11 zw_456 rfl dX11_takesAll_173 ?_
                refine lv_ldc2 (v := 542723566) hx hb S.2.2.2.1 (ht _ zw_460) dX11_takesAll_176 ?_
                refine W.lcmp hx hb dX11_takesAll_179 ?_
                refine lv_if_ne (tgt := 193) hx hb dX11_takesAll_180 (by decide) (fun h180 => ?_) (fun h180 => ?_)
                · have hg := zn hg h180
                  refine lv_aload_n hx hb dX11_takesAll_193 rfl (lv_at hl 0 rfl) ?_
                  refine zget (C := RX11) (T := TX11) (N := 31) S hK hP 0 rfl rfl 14 (Nat.le_of_ble_eq_true rfl) zf_11 zw_456 rfl dX11_takesAll_194 ?_
                  refine lv_ldc2 (v := 656779) hx hb S.2.2.2.1 (ht _ zw_461) dX11_takesAll_197 ?_
                  refine W.lcmp hx hb dX11_takesAll_200 ?_
                  refine lv_if_ne (tgt := 214) hx hb dX11_takesAll_201 (by decide) (fun h201 => ?_) (fun h201 => ?_)
                  · have hg := zn hg h201
                    refine lv_aload_n hx hb dX11_takesAll_214 rfl (lv_at hl 0 rfl) ?_
                    refine zget (C := RX11) (T := TX11) (N := 31) S hK hP 0 rfl rfl 14 (Nat.le_of_ble_eq_true rfl) zf_11 zw_456 rfl dX11_takesAll_215 ?_
                    refine lv_ldc2 (v := 4773) hx hb S.2.2.2.1 (ht _ zw_462) dX11_takesAll_218 ?_
                    refine W.lcmp hx hb dX11_takesAll_221 ?_
                    refine lv_if_ne (tgt := 235) hx hb dX11_takesAll_222 (by decide) (fun h222 => ?_) (fun h222 => ?_)
                    · have hg := zn hg h222
                      refine lv_aload_n hx hb dX11_takesAll_235 rfl (lv_at hl 0 rfl) ?_
                      refine zget (C := RX11) (T := TX11) (N := 31) S hK hP 0 rfl rfl 14 (Nat.le_of_ble_eq_true rfl) zf_11 zw_456 rfl dX11_takesAll_236 ?_
                      refine lv_ldc2 (v := 20225300) hx hb S.2.2.2.1 (ht _ zw_463) dX11_takesAll_239 ?_
                      refine W.lcmp hx hb dX11_takesAll_242 ?_
                      refine lv_if_ne (tgt := 257) hx hb dX11_takesAll_243 (by decide) (fun h243 => ?_) (fun h243 => ?_)
                      · have hg := zn hg h243
                        exact B257 (g_X11_takesAll_91 v_M_size a_M_text a_M_now n) ih x1 v_M_at v_M_begin v_M_kind v_M_value a_M_read _ _ _ hl hP hD hS hg
                      · have hg := zp hg h243
                        refine lv_aload_n hx hb dX11_takesAll_246 rfl (lv_at hl 0 rfl) ?_
                        obtain ⟨v5, hc6, hg⟩ := zbd hg
                        refine zcallV (rest := []) S (c_X11_takesSight l D cI cJ cZ cA ga q_M q_M_read q_M_text (.ref q_M_now) u_M_images u_M_kept u_M_sign u_M_manyAbove u_M_manyBelow u_M_above u_M_below u_M_refused u_M_acts u_M_act u_M_waits u_M_wait u_M_held u_M_place u_M_heap u_M_clocks u_M_counts u_M_talking u_M_most u_M_hasA u_M_hasB u_M_talks u_M_big v_M_size v_M_at v_M_begin v_M_kind v_M_value a_M_read a_M_text v5 hc6) (zgV zw_507 zw_508 zw_509 zw_5 zw_510) rfl hd_X11_takesSight ⟨rfl, rfl⟩ ⟨Nat.le_of_ble_eq_true rfl, Nat.le_of_ble_eq_true rfl⟩ 0 11 rfl rfl rfl hl.1 rfl (Nat.le_of_ble_eq_true rfl) dX11_takesAll_247 hP hD hS hA hK hG (isC := [0, 1, 2]) rfl rfl rfl (w2 := (ws_X11_takesAll cI cJ cZ cA q_M q_M_read q_M_text q_M_now u_M_images u_M_kept u_M_sign u_M_manyAbove u_M_manyBelow u_M_above u_M_below u_M_refused u_M_acts u_M_act u_M_waits u_M_wait u_M_held u_M_place u_M_heap u_M_clocks u_M_counts u_M_talking u_M_most u_M_hasA u_M_hasB u_M_talks u_M_big v_M_size v5.2.1 v5.2.2.1 v5.2.2.2.1 v5.2.2.2.2.1 v5.2.2.2.2.2 a_M_text a_M_now)) rfl (st1 := [.int v5.1]) rfl (fun H locs hP hD hS => ?_)
                        refine lv_if_eq (tgt := 257) hx hb dX11_takesAll_250 (by decide) (fun h250 => ?_) (fun h250 => ?_)
                        · have hg := zp hg h250
                          exact B257 (g_X11_takesAll_91 v_M_size a_M_text a_M_now n) ih x1 v5.2.1 v5.2.2.1 v5.2.2.2.1 v5.2.2.2.2.1 v5.2.2.2.2.2 _ _ _ hl hP hD hS hg
                        · have hg := zn hg h250
                          exact B253 (g_X11_takesAll_91 v_M_size a_M_text a_M_now n) ih x1 v5.2.1 v5.2.2.1 v5.2.2.2.1 v5.2.2.2.2.1 v5.2.2.2.2.2 _ _ _ hl hP hD hS hg
                    · have hg := zp hg h222
                      refine lv_aload_n hx hb dX11_takesAll_225 rfl (lv_at hl 0 rfl) ?_
                      obtain ⟨v7, hc8, hg⟩ := zbd hg
                      refine zcallV (rest := []) S (c_X11_takesDue l D cI cJ cZ cA ga q_M q_M_read q_M_text (.ref q_M_now) u_M_images u_M_kept u_M_sign u_M_manyAbove u_M_manyBelow u_M_above u_M_below u_M_refused u_M_acts u_M_act u_M_waits u_M_wait u_M_held u_M_place u_M_heap u_M_clocks u_M_counts u_M_talking u_M_most u_M_hasA u_M_hasB u_M_talks u_M_big v_M_size v_M_at v_M_begin v_M_kind v_M_value a_M_read a_M_text v7 hc8) (zgV zw_503 zw_504 zw_505 zw_5 zw_506) rfl hd_X11_takesDue ⟨rfl, rfl⟩ ⟨Nat.le_of_ble_eq_true rfl, Nat.le_of_ble_eq_true rfl⟩ 0 11 rfl rfl rfl hl.1 rfl (Nat.le_of_ble_eq_true rfl) dX11_takesAll_226 hP hD hS hA hK hG (isC := [0, 1, 2]) rfl rfl rfl (w2 := (ws_X11_takesAll cI cJ cZ cA q_M q_M_read q_M_text q_M_now u_M_images u_M_kept u_M_sign u_M_manyAbove u_M_manyBelow u_M_above u_M_below u_M_refused u_M_acts u_M_act u_M_waits u_M_wait u_M_held u_M_place u_M_heap u_M_clocks u_M_counts u_M_talking u_M_most u_M_hasA u_M_hasB u_M_talks u_M_big v_M_size v7.2.1 v7.2.2.1 v7.2.2.2.1 v7.2.2.2.2.1 v7.2.2.2.2.2 a_M_text a_M_now)) rfl (st1 := [.int v7.1]) rfl (fun H locs hP hD hS => ?_)
                      refine lv_if_eq (tgt := 257) hx hb dX11_takesAll_229 (by decide) (fun h229 => ?_) (fun h229 => ?_)
                      · have hg := zp hg h229
                        exact B257 (g_X11_takesAll_91 v_M_size a_M_text a_M_now n) ih x1 v7.2.1 v7.2.2.1 v7.2.2.2.1 v7.2.2.2.2.1 v7.2.2.2.2.2 _ _ _ hl hP hD hS hg
                      · have hg := zn hg h229
                        refine lv_goto (tgt := 253) hx hb dX11_takesAll_232 (by decide) ?_
                        exact B253 (g_X11_takesAll_91 v_M_size a_M_text a_M_now n) ih x1 v7.2.1 v7.2.2.1 v7.2.2.2.1 v7.2.2.2.2.1 v7.2.2.2.2.2 _ _ _ hl hP hD hS hg
                  · have hg := zp hg h201
                    refine lv_aload_n hx hb dX11_takesAll_204 rfl (lv_at hl 0 rfl) ?_
                    obtain ⟨v9, hc10, hg⟩ := zbd hg
                    refine zcallV (rest := []) S (c_X11_takesTalk l D cI cJ cZ cA ga q_M q_M_read q_M_text (.ref q_M_now) u_M_images u_M_kept u_M_sign u_M_manyAbove u_M_manyBelow u_M_above u_M_below u_M_refused u_M_acts u_M_act u_M_waits u_M_wait u_M_held u_M_place u_M_heap u_M_clocks u_M_counts u_M_talking u_M_most u_M_hasA u_M_hasB u_M_talks u_M_big v_M_size v_M_at v_M_begin v_M_kind v_M_value a_M_read a_M_text v9 hc10) (zgV zw_499 zw_500 zw_501 zw_5 zw_502) rfl hd_X11_takesTalk ⟨rfl, rfl⟩ ⟨Nat.le_of_ble_eq_true rfl, Nat.le_of_ble_eq_true rfl⟩ 0 11 rfl rfl rfl hl.1 rfl (Nat.le_of_ble_eq_true rfl) dX11_takesAll_205 hP hD hS hA hK hG (isC := [0, 1, 2]) rfl rfl rfl (w2 := (ws_X11_takesAll cI cJ cZ cA q_M q_M_read q_M_text q_M_now u_M_images u_M_kept u_M_sign u_M_manyAbove u_M_manyBelow u_M_above u_M_below u_M_refused u_M_acts u_M_act u_M_waits u_M_wait u_M_held u_M_place u_M_heap u_M_clocks u_M_counts u_M_talking u_M_most u_M_hasA u_M_hasB u_M_talks u_M_big v_M_size v9.2.1 v9.2.2.1 v9.2.2.2.1 v9.2.2.2.2.1 v9.2.2.2.2.2 a_M_text a_M_now)) rfl (st1 := [.int v9.1]) rfl (fun H locs hP hD hS => ?_)
                    refine lv_if_eq (tgt := 257) hx hb dX11_takesAll_208 (by decide) (fun h208 => ?_) (fun h208 => ?_)
                    · have hg := zp hg h208
                      exact B257 (g_X11_takesAll_91 v_M_size a_M_text a_M_now n) ih x1 v9.2.1 v9.2.2.1 v9.2.2.2.1 v9.2.2.2.2.1 v9.2.2.2.2.2 _ _ _ hl hP hD hS hg
                    · have hg := zn hg h208
                      refine lv_goto (tgt := 253) hx hb dX11_takesAll_211 (by decide) ?_
                      exact B253 (g_X11_takesAll_91 v_M_size a_M_text a_M_now n) ih x1 v9.2.1 v9.2.2.1 v9.2.2.2.1 v9.2.2.2.2.1 v9.2.2.2.2.2 _ _ _ hl hP hD hS hg
                · have hg := zp hg h180
                  refine lv_aload_n hx hb dX11_takesAll_183 rfl (lv_at hl 0 rfl) ?_
                  obtain ⟨v11, hc12, hg⟩ := zbd hg
                  refine zcallV (rest := []) S (c_X11_takesPerson l D cI cJ cZ cA ga q_M q_M_read q_M_text (.ref q_M_now) u_M_images u_M_kept u_M_sign u_M_manyAbove u_M_manyBelow u_M_above u_M_below u_M_refused u_M_acts u_M_act u_M_waits u_M_wait u_M_held u_M_place u_M_heap u_M_clocks u_M_counts u_M_talking u_M_most u_M_hasA u_M_hasB u_M_talks u_M_big v_M_size v_M_at v_M_begin v_M_kind v_M_value a_M_read a_M_text v11 hc12) (zgV zw_495 zw_496 zw_497 zw_5 zw_498) rfl hd_X11_takesPerson ⟨rfl, rfl⟩ ⟨Nat.le_of_ble_eq_true rfl, Nat.le_of_ble_eq_true rfl⟩ 0 11 rfl rfl rfl hl.1 rfl (Nat.le_of_ble_eq_true rfl) dX11_takesAll_184 hP hD hS hA hK hG (isC := [0, 1, 2]) rfl rfl rfl (w2 := (ws_X11_takesAll cI cJ cZ cA q_M q_M_read q_M_text q_M_now u_M_images u_M_kept u_M_sign u_M_manyAbove u_M_manyBelow u_M_above u_M_below u_M_refused u_M_acts u_M_act u_M_waits u_M_wait u_M_held u_M_place u_M_heap u_M_clocks u_M_counts u_M_talking u_M_most u_M_hasA u_M_hasB u_M_talks u_M_big v_M_size v11.2.1 v11.2.2.1 v11.2.2.2.1 v11.2.2.2.2.1 v11.2.2.2.2.2 a_M_text a_M_now)) rfl (st1 := [.int v11.1]) rfl (fun H locs hP hD hS => ?_)
                  refine lv_if_eq (tgt := 257) hx hb dX11_takesAll_187 (by decide) (fun h187 => ?_) (fun h187 => ?_)
                  · have hg := zp hg h187
                    exact B257 (g_X11_takesAll_91 v_M_size a_M_text a_M_now n) ih x1 v11.2.1 v11.2.2.1 v11.2.2.2.1 v11.2.2.2.2.1 v11.2.2.2.2.2 _ _ _ hl hP hD hS hg
                  · have hg := zn hg h187
                    refine lv_goto (tgt := 253) hx hb dX11_takesAll_190 (by decide) ?_
                    exact B253 (g_X11_takesAll_91 v_M_size a_M_text a_M_now n) ih x1 v11.2.1 v11.2.2.1 v11.2.2.2.1 v11.2.2.2.2.1 v11.2.2.2.2.2 _ _ _ hl hP hD hS hg
              · have hg := zp hg h158
                refine lv_aload_n hx hb dX11_takesAll_161 rfl (lv_at hl 0 rfl) ?_
                refine lv_iconst (v := 2) hx hb dX11_takesAll_162 (by decide) ?_
                obtain ⟨v13, hc14, hg⟩ := zbd hg
                refine zcallV (rest := []) S (c_X11_takesPut l D cI cJ cZ cA ga q_M q_M_text q_M_read (.ref q_M_now) u_M_images u_M_kept u_M_sign u_M_manyAbove u_M_manyBelow u_M_above u_M_below u_M_refused u_M_acts u_M_act u_M_waits u_M_wait u_M_held u_M_place u_M_heap u_M_clocks u_M_counts u_M_talking u_M_most u_M_hasA u_M_hasB u_M_talks u_M_big v_M_size v_M_at v_M_begin v_M_kind v_M_value a_M_text a_M_read 2 v13 hc14) (zgV zw_483 zw_484 zw_485 zw_5 zw_486) rfl hd_X11_takesPut ⟨rfl, rfl⟩ ⟨Nat.le_of_ble_eq_true rfl, Nat.le_of_ble_eq_true rfl⟩ 0 11 rfl rfl rfl hl.1 rfl (Nat.le_of_ble_eq_true rfl) dX11_takesAll_163 hP hD hS hA hK hG (isC := [0, 2, 1]) rfl rfl rfl (w2 := (ws_X11_takesAll cI cJ cZ cA q_M q_M_read q_M_text q_M_now u_M_images u_M_kept u_M_sign u_M_manyAbove u_M_manyBelow u_M_above u_M_below u_M_refused u_M_acts u_M_act u_M_waits u_M_wait u_M_held u_M_place u_M_heap u_M_clocks u_M_counts u_M_talking u_M_most u_M_hasA u_M_hasB u_M_talks u_M_big v_M_size v13.2.1 v13.2.2.1 v13.2.2.2.1 v13.2.2.2.2.1 v13.2.2.2.2.2 a_M_text a_M_now)) rfl (st1 := [.int v13.1]) rfl (fun H locs hP hD hS => ?_)
                refine lv_if_eq (tgt := 257) hx hb dX11_takesAll_166 (by decide) (fun h166 => ?_) (fun h166 => ?_)
                · have hg := zp hg h166
                  exact B257 (g_X11_takesAll_91 v_M_size a_M_text a_M_now n) ih x1 v13.2.1 v13.2.2.1 v13.2.2.2.1 v13.2.2.2.2.1 v13.2.2.2.2.2 _ _ _ hl hP hD hS hg
                · have hg := zn hg h166
                  refine lv_goto (tgt := 253) hx hb dX11_takesAll_169 (by decide) ?_
                  exact B253 (g_X11_takesAll_91 v_M_size a_M_text a_M_now n) ih x1 v13.2.1 v13.2.2.1 v13.2.2.2.1 v13.2.2.2.2.1 v13.2.2.2.2.2 _ _ _ hl hP hD hS hg
            · have hg := zp hg h136
              refine lv_aload_n hx hb dX11_takesAll_139 rfl (lv_at hl 0 rfl) ?_
              refine lv_iconst (v := 1) hx hb dX11_takesAll_140 (by decide) ?_
              obtain ⟨v15, hc16, hg⟩ := zbd hg
              refine zcallV (rest := []) S (c_X11_takesPut l D cI cJ cZ cA ga q_M q_M_text q_M_read (.ref q_M_now) u_M_images u_M_kept u_M_sign u_M_manyAbove u_M_manyBelow u_M_above u_M_below u_M_refused u_M_acts u_M_act u_M_waits u_M_wait u_M_held u_M_place u_M_heap u_M_clocks u_M_counts u_M_talking u_M_most u_M_hasA u_M_hasB u_M_talks u_M_big v_M_size v_M_at v_M_begin v_M_kind v_M_value a_M_text a_M_read 1 v15 hc16) (zgV zw_483 zw_484 zw_485 zw_5 zw_486) rfl hd_X11_takesPut ⟨rfl, rfl⟩ ⟨Nat.le_of_ble_eq_true rfl, Nat.le_of_ble_eq_true rfl⟩ 0 11 rfl rfl rfl hl.1 rfl (Nat.le_of_ble_eq_true rfl) dX11_takesAll_141 hP hD hS hA hK hG (isC := [0, 2, 1]) rfl rfl rfl (w2 := (ws_X11_takesAll cI cJ cZ cA q_M q_M_read q_M_text q_M_now u_M_images u_M_kept u_M_sign u_M_manyAbove u_M_manyBelow u_M_above u_M_below u_M_refused u_M_acts u_M_act u_M_waits u_M_wait u_M_held u_M_place u_M_heap u_M_clocks u_M_counts u_M_talking u_M_most u_M_hasA u_M_hasB u_M_talks u_M_big v_M_size v15.2.1 v15.2.2.1 v15.2.2.2.1 v15.2.2.2.2.1 v15.2.2.2.2.2 a_M_text a_M_now)) rfl (st1 := [.int v15.1]) rfl (fun H locs hP hD hS => ?_)
              refine lv_if_eq (tgt := 257) hx hb dX11_takesAll_144 (by decide) (fun h144 => ?_) (fun h144 => ?_)
              · have hg := zp hg h144
                exact B257 (g_X11_takesAll_91 v_M_size a_M_text a_M_now n) ih x1 v15.2.1 v15.2.2.1 v15.2.2.2.1 v15.2.2.2.2.1 v15.2.2.2.2.2 _ _ _ hl hP hD hS hg
              · have hg := zn hg h144
                refine lv_goto (tgt := 253) hx hb dX11_takesAll_147 (by decide) ?_
                exact B253 (g_X11_takesAll_91 v_M_size a_M_text a_M_now n) ih x1 v15.2.1 v15.2.2.1 v15.2.2.2.1 v15.2.2.2.2.1 v15.2.2.2.2.2 _ _ _ hl hP hD hS hg
          · have hg := zp hg h114
            refine lv_aload_n hx hb dX11_takesAll_117 rfl (lv_at hl 0 rfl) ?_
            refine lv_iconst (v := 0) hx hb dX11_takesAll_118 (by decide) ?_
            obtain ⟨v17, hc18, hg⟩ := zbd hg
            refine zcallV (rest := []) S (c_X11_takesPut l D cI cJ cZ cA ga q_M q_M_text q_M_read (.ref q_M_now) u_M_images u_M_kept u_M_sign u_M_manyAbove u_M_manyBelow u_M_above u_M_below u_M_refused u_M_acts u_M_act u_M_waits u_M_wait u_M_held u_M_place u_M_heap u_M_clocks u_M_counts u_M_talking u_M_most u_M_hasA u_M_hasB u_M_talks u_M_big v_M_size v_M_at v_M_begin v_M_kind v_M_value a_M_text a_M_read 0 v17 hc18) (zgV zw_483 zw_484 zw_485 zw_5 zw_486) rfl hd_X11_takesPut ⟨rfl, rfl⟩ ⟨Nat.le_of_ble_eq_true rfl, Nat.le_of_ble_eq_true rfl⟩ 0 11 rfl rfl rfl hl.1 rfl (Nat.le_of_ble_eq_true rfl) dX11_takesAll_119 hP hD hS hA hK hG (isC := [0, 2, 1]) rfl rfl rfl (w2 := (ws_X11_takesAll cI cJ cZ cA q_M q_M_read q_M_text q_M_now u_M_images u_M_kept u_M_sign u_M_manyAbove u_M_manyBelow u_M_above u_M_below u_M_refused u_M_acts u_M_act u_M_waits u_M_wait u_M_held u_M_place u_M_heap u_M_clocks u_M_counts u_M_talking u_M_most u_M_hasA u_M_hasB u_M_talks u_M_big v_M_size v17.2.1 v17.2.2.1 v17.2.2.2.1 v17.2.2.2.2.1 v17.2.2.2.2.2 a_M_text a_M_now)) rfl (st1 := [.int v17.1]) rfl (fun H locs hP hD hS => ?_)
            refine lv_if_eq (tgt := 257) hx hb dX11_takesAll_122 (by decide) (fun h122 => ?_) (fun h122 => ?_)
            · have hg := zp hg h122
              exact B257 (g_X11_takesAll_91 v_M_size a_M_text a_M_now n) ih x1 v17.2.1 v17.2.2.1 v17.2.2.2.1 v17.2.2.2.2.1 v17.2.2.2.2.2 _ _ _ hl hP hD hS hg
            · have hg := zn hg h122
              refine lv_goto (tgt := 253) hx hb dX11_takesAll_125 (by decide) ?_
              exact B253 (g_X11_takesAll_91 v_M_size a_M_text a_M_now n) ih x1 v17.2.1 v17.2.2.1 v17.2.2.2.1 v17.2.2.2.2.1 v17.2.2.2.2.2 _ _ _ hl hP hD hS hg
  have B61 : ∀  (n : Nat) (x1 : Int32) (v_M_at : Int32) (v_M_begin : Int32) (v_M_kind : Int32) (v_M_value : Int64) (a_M_read : Nat → Int32) (H : Heap) (locs : List Loc) (ls : Array Slot) (hl : lv_has ls 3 [(0, .ref q_M), (1, .int x1)]) (hP : va_P D vwCl (ws_X11_takesAll cI cJ cZ cA q_M q_M_read q_M_text q_M_now u_M_images u_M_kept u_M_sign u_M_manyAbove u_M_manyBelow u_M_above u_M_below u_M_refused u_M_acts u_M_act u_M_waits u_M_wait u_M_held u_M_place u_M_heap u_M_clocks u_M_counts u_M_talking u_M_most u_M_hasA u_M_hasB u_M_talks u_M_big v_M_size v_M_at v_M_begin v_M_kind v_M_value a_M_read a_M_text a_M_now) H) (hD : va_D A (ws_X11_takesAll cI cJ cZ cA q_M q_M_read q_M_text q_M_now u_M_images u_M_kept u_M_sign u_M_manyAbove u_M_manyBelow u_M_above u_M_below u_M_refused u_M_acts u_M_act u_M_waits u_M_wait u_M_held u_M_place u_M_heap u_M_clocks u_M_counts u_M_talking u_M_most u_M_hasA u_M_hasB u_M_talks u_M_big v_M_size v_M_at v_M_begin v_M_kind v_M_value a_M_read a_M_text a_M_now)) (hS : va_S A s.heap H locs), g_X11_takesAll_61 v_M_size a_M_text a_M_now n x1 v_M_at v_M_begin v_M_kind v_M_value a_M_read = some o → W p l e rm_X11_takesAll s m args below meth c H locs 0 0 Q (F0 m 61 ls []) := by
    intro  n
    induction n with
    | zero => intro x1 v_M_at v_M_begin v_M_kind v_M_value a_M_read H locs ls hl hP hD hS hg; exact nomatch (show (none : Option (Int32 × Int32 × Int32 × Int32 × Int64 × (Nat → Int32))) = some o from hg)
    | succ n ih =>
      intro x1 v_M_at v_M_begin v_M_kind v_M_value a_M_read H locs ls hl hP hD hS hg
      have hg : g_X11_takesAll_61b v_M_size a_M_text a_M_now (g_X11_takesAll_61 v_M_size a_M_text a_M_now n) x1 v_M_at v_M_begin v_M_kind v_M_value a_M_read = some o := hg
      refine lv_iload_n hx hb dX11_takesAll_61 rfl (lv_at hl 1 rfl) ?_
      refine lv_bipush (v := 6) hx hb dX11_takesAll_62 (by decide) ?_
      refine lv_icmp_gt (tgt := 80) hx hb dX11_takesAll_64 (by decide) (fun h64 => ?_) (fun h64 => ?_)
      · have hg := zp hg h64
        refine lv_aload_n hx hb dX11_takesAll_80 rfl (lv_at hl 0 rfl) ?_
        refine lv_iconst (v := 0) hx hb dX11_takesAll_81 (by decide) ?_
        refine zputf (C := RX11) (T := TX11) (N := 31) (ty := .int) S hK hP hD hS 0 rfl rfl 11 (Nat.le_of_ble_eq_true rfl) zf_11 tyX11 tyX11_ok nmX11 zw_454 rfl (by decide +kernel) rfl rfl (Nat.le_of_ble_eq_true rfl) dX11_takesAll_82 (w2 := (ws_X11_takesAll cI cJ cZ cA q_M q_M_read q_M_text q_M_now u_M_images u_M_kept u_M_sign u_M_manyAbove u_M_manyBelow u_M_above u_M_below u_M_refused u_M_acts u_M_act u_M_waits u_M_wait u_M_held u_M_place u_M_heap u_M_clocks u_M_counts u_M_talking u_M_most u_M_hasA u_M_hasB u_M_talks u_M_big v_M_size 0 v_M_begin v_M_kind v_M_value a_M_read a_M_text a_M_now)) rfl (fun H locs hP hD hS => ?_)
        refine lv_iconst (v := 0) hx hb dX11_takesAll_85 (by decide) ?_
        refine lv_istore_n (lv' := [(1, .int 0), (0, .ref q_M)]) hx hb dX11_takesAll_86 rfl hl (by decide) rfl (fun ls hl => ?_)
        refine lv_aload_n hx hb dX11_takesAll_87 rfl (lv_at hl 1 rfl) ?_
        obtain ⟨v1, hc2, hg⟩ := zbd hg
        refine zcallV (rest := []) S (c_X11_next l D cI cJ cZ cA ga q_M q_M_text (.ref q_M_now) u_M_images u_M_kept u_M_sign u_M_manyAbove u_M_manyBelow u_M_above u_M_below u_M_refused (.ref q_M_read) u_M_acts u_M_act u_M_waits u_M_wait u_M_held u_M_place u_M_heap u_M_clocks u_M_counts u_M_talking u_M_most u_M_hasA u_M_hasB u_M_talks u_M_big v_M_size 0 v_M_begin v_M_kind v_M_value a_M_text v1 hc2) (zgV zw_464 zw_465 zw_466 zw_5 zw_467) rfl hd_X11_next ⟨rfl, rfl⟩ ⟨Nat.le_of_ble_eq_true rfl, Nat.le_of_ble_eq_true rfl⟩ 0 11 rfl rfl rfl hl.1 rfl (Nat.le_of_ble_eq_true rfl) dX11_takesAll_88 hP hD hS hA hK hG (isC := [0, 2]) rfl rfl rfl (w2 := (ws_X11_takesAll cI cJ cZ cA q_M q_M_read q_M_text q_M_now u_M_images u_M_kept u_M_sign u_M_manyAbove u_M_manyBelow u_M_above u_M_below u_M_refused u_M_acts u_M_act u_M_waits u_M_wait u_M_held u_M_place u_M_heap u_M_clocks u_M_counts u_M_talking u_M_most u_M_hasA u_M_hasB u_M_talks u_M_big v_M_size v1.1 v1.2.1 v1.2.2.1 v1.2.2.2 a_M_read a_M_text a_M_now)) rfl (st1 := []) rfl (fun H locs hP hD hS => ?_)
        exact B91 zF 0 v1.1 v1.2.1 v1.2.2.1 v1.2.2.2 a_M_read _ _ _ (lv_sub hl [1, 0] rfl) hP hD hS hg
      · have hg := zn hg h64
        refine lv_aload_n hx hb dX11_takesAll_67 rfl (lv_at hl 0 rfl) ?_
        refine zget (C := RX11) (T := TX11) (N := 31) S hK hP 0 rfl rfl 15 (Nat.le_of_ble_eq_true rfl) zf_11 zw_157 rfl dX11_takesAll_68 ?_
        refine lv_iload_n hx hb dX11_takesAll_71 rfl (lv_at hl 1 rfl) ?_
        refine lv_iconst (v := 0) hx hb dX11_takesAll_72 (by decide) ?_
        obtain ⟨h19, hg⟩ := zck hg
        refine ziast hx hb hK hP hD hS 1 0 rfl rfl (j := (x1.toNatClampNeg)) h19 rfl dX11_takesAll_73 (w2 := (ws_X11_takesAll cI cJ cZ cA q_M q_M_read q_M_text q_M_now u_M_images u_M_kept u_M_sign u_M_manyAbove u_M_manyBelow u_M_above u_M_below u_M_refused u_M_acts u_M_act u_M_waits u_M_wait u_M_held u_M_place u_M_heap u_M_clocks u_M_counts u_M_talking u_M_most u_M_hasA u_M_hasB u_M_talks u_M_big v_M_size v_M_at v_M_begin v_M_kind v_M_value (upd a_M_read (x1.toNatClampNeg) 0) a_M_text a_M_now)) rfl (fun H locs hP hD hS => ?_)
        refine lv_iinc (k := 1) (v := x1 + 1) (lv' := [(1, .int (x1 + 1)), (0, .ref q_M)]) hx hb dX11_takesAll_74 hl rfl (zinc (by decide)) (by decide) rfl (fun ls hl => ?_)
        refine lv_goto (tgt := 61) hx hb dX11_takesAll_77 (by decide) ?_
        exact ih (x1 + 1) v_M_at v_M_begin v_M_kind v_M_value (upd a_M_read (x1.toNatClampNeg) 0) _ _ _ (lv_sub hl [1, 0] rfl) hP hD hS hg
  have B30 : ∀ (k2 : Int32 → Int32 → Int32 → Int32 → Int64 → (Nat → Int32) → Option (Int32 × Int32 × Int32 × Int32 × Int64 × (Nat → Int32))) (hk2 : ∀ (x1 : Int32) (v_M_at : Int32) (v_M_begin : Int32) (v_M_kind : Int32) (v_M_value : Int64) (a_M_read : Nat → Int32) (H : Heap) (locs : List Loc) (ls : Array Slot) (hl : lv_has ls 3 [(0, .ref q_M), (1, .int x1)]) (hP : va_P D vwCl (ws_X11_takesAll cI cJ cZ cA q_M q_M_read q_M_text q_M_now u_M_images u_M_kept u_M_sign u_M_manyAbove u_M_manyBelow u_M_above u_M_below u_M_refused u_M_acts u_M_act u_M_waits u_M_wait u_M_held u_M_place u_M_heap u_M_clocks u_M_counts u_M_talking u_M_most u_M_hasA u_M_hasB u_M_talks u_M_big v_M_size v_M_at v_M_begin v_M_kind v_M_value a_M_read a_M_text a_M_now) H) (hD : va_D A (ws_X11_takesAll cI cJ cZ cA q_M q_M_read q_M_text q_M_now u_M_images u_M_kept u_M_sign u_M_manyAbove u_M_manyBelow u_M_above u_M_below u_M_refused u_M_acts u_M_act u_M_waits u_M_wait u_M_held u_M_place u_M_heap u_M_clocks u_M_counts u_M_talking u_M_most u_M_hasA u_M_hasB u_M_talks u_M_big v_M_size v_M_at v_M_begin v_M_kind v_M_value a_M_read a_M_text a_M_now)) (hS : va_S A s.heap H locs), k2 x1 v_M_at v_M_begin v_M_kind v_M_value a_M_read = some o → W p l e rm_X11_takesAll s m args below meth c H locs 0 0 Q (F0 m 2 ls [])) (x1 : Int32) (t1 : Int32) (t2 : Int32) (v_M_at : Int32) (v_M_begin : Int32) (v_M_kind : Int32) (v_M_value : Int64) (a_M_read : Nat → Int32) (H : Heap) (locs : List Loc) (ls : Array Slot) (hl : lv_has ls 3 [(0, .ref q_M), (1, .int x1)]) (hP : va_P D vwCl (ws_X11_takesAll cI cJ cZ cA q_M q_M_read q_M_text q_M_now u_M_images u_M_kept u_M_sign u_M_manyAbove u_M_manyBelow u_M_above u_M_below u_M_refused u_M_acts u_M_act u_M_waits u_M_wait u_M_held u_M_place u_M_heap u_M_clocks u_M_counts u_M_talking u_M_most u_M_hasA u_M_hasB u_M_talks u_M_big v_M_size v_M_at v_M_begin v_M_kind v_M_value a_M_read a_M_text a_M_now) H) (hD : va_D A (ws_X11_takesAll cI cJ cZ cA q_M q_M_read q_M_text q_M_now u_M_images u_M_kept u_M_sign u_M_manyAbove u_M_manyBelow u_M_above u_M_below u_M_refused u_M_acts u_M_act u_M_waits u_M_wait u_M_held u_M_place u_M_heap u_M_clocks u_M_counts u_M_talking u_M_most u_M_hasA u_M_hasB u_M_talks u_M_big v_M_size v_M_at v_M_begin v_M_kind v_M_value a_M_read a_M_text a_M_now)) (hS : va_S A s.heap H locs), g_X11_takesAll_30 v_M_size a_M_text a_M_now k2 x1 t1 t2 v_M_at v_M_begin v_M_kind v_M_value a_M_read = some o → W p l e rm_X11_takesAll s m args below meth c H locs 0 0 Q (F0 m 30 ls [.int t2, .int t1, .ref q_M_read]) := by
    intro k2 hk2 x1 t1 t2 v_M_at v_M_begin v_M_kind v_M_value a_M_read H locs ls hl hP hD hS hg
    obtain ⟨h20, hg⟩ := zck hg
    refine ziast hx hb hK hP hD hS 1 0 rfl rfl (j := (t1.toNatClampNeg)) h20 rfl dX11_takesAll_30 (w2 := (ws_X11_takesAll cI cJ cZ cA q_M q_M_read q_M_text q_M_now u_M_images u_M_kept u_M_sign u_M_manyAbove u_M_manyBelow u_M_above u_M_below u_M_refused u_M_acts u_M_act u_M_waits u_M_wait u_M_held u_M_place u_M_heap u_M_clocks u_M_counts u_M_talking u_M_most u_M_hasA u_M_hasB u_M_talks u_M_big v_M_size v_M_at v_M_begin v_M_kind v_M_value (upd a_M_read (t1.toNatClampNeg) t2) a_M_text a_M_now)) rfl (fun H locs hP hD hS => ?_)
    refine lv_iinc (k := 1) (v := x1 + 1) (lv' := [(1, .int (x1 + 1)), (0, .ref q_M)]) hx hb dX11_takesAll_31 hl rfl (zinc (by decide)) (by decide) rfl (fun ls hl => ?_)
    refine lv_goto (tgt := 2) hx hb dX11_takesAll_34 (by decide) ?_
    exact hk2 (x1 + 1) v_M_at v_M_begin v_M_kind v_M_value (upd a_M_read (t1.toNatClampNeg) t2) _ _ _ (lv_sub hl [1, 0] rfl) hP hD hS hg
  have B2 : ∀  (n : Nat) (x1 : Int32) (v_M_at : Int32) (v_M_begin : Int32) (v_M_kind : Int32) (v_M_value : Int64) (a_M_read : Nat → Int32) (H : Heap) (locs : List Loc) (ls : Array Slot) (hl : lv_has ls 3 [(0, .ref q_M), (1, .int x1)]) (hP : va_P D vwCl (ws_X11_takesAll cI cJ cZ cA q_M q_M_read q_M_text q_M_now u_M_images u_M_kept u_M_sign u_M_manyAbove u_M_manyBelow u_M_above u_M_below u_M_refused u_M_acts u_M_act u_M_waits u_M_wait u_M_held u_M_place u_M_heap u_M_clocks u_M_counts u_M_talking u_M_most u_M_hasA u_M_hasB u_M_talks u_M_big v_M_size v_M_at v_M_begin v_M_kind v_M_value a_M_read a_M_text a_M_now) H) (hD : va_D A (ws_X11_takesAll cI cJ cZ cA q_M q_M_read q_M_text q_M_now u_M_images u_M_kept u_M_sign u_M_manyAbove u_M_manyBelow u_M_above u_M_below u_M_refused u_M_acts u_M_act u_M_waits u_M_wait u_M_held u_M_place u_M_heap u_M_clocks u_M_counts u_M_talking u_M_most u_M_hasA u_M_hasB u_M_talks u_M_big v_M_size v_M_at v_M_begin v_M_kind v_M_value a_M_read a_M_text a_M_now)) (hS : va_S A s.heap H locs), g_X11_takesAll_2 v_M_size a_M_text a_M_now n x1 v_M_at v_M_begin v_M_kind v_M_value a_M_read = some o → W p l e rm_X11_takesAll s m args below meth c H locs 0 0 Q (F0 m 2 ls []) := by
    intro  n
    induction n with
    | zero => intro x1 v_M_at v_M_begin v_M_kind v_M_value a_M_read H locs ls hl hP hD hS hg; exact nomatch (show (none : Option (Int32 × Int32 × Int32 × Int32 × Int64 × (Nat → Int32))) = some o from hg)
    | succ n ih =>
      intro x1 v_M_at v_M_begin v_M_kind v_M_value a_M_read H locs ls hl hP hD hS hg
      have hg : g_X11_takesAll_2b v_M_size a_M_text a_M_now (g_X11_takesAll_2 v_M_size a_M_text a_M_now n) x1 v_M_at v_M_begin v_M_kind v_M_value a_M_read = some o := hg
      refine lv_iload_n hx hb dX11_takesAll_2 rfl (lv_at hl 1 rfl) ?_
      refine lv_sipush (v := 155) hx hb dX11_takesAll_3 (by decide) ?_
      refine lv_icmp_ge (tgt := 37) hx hb dX11_takesAll_6 (by decide) (fun h6 => ?_) (fun h6 => ?_)
      · have hg := zp hg h6
        refine lv_aload_n hx hb dX11_takesAll_37 rfl (lv_at hl 0 rfl) ?_
        refine zget (C := RX11) (T := TX11) (N := 31) S hK hP 0 rfl rfl 15 (Nat.le_of_ble_eq_true rfl) zf_11 zw_157 rfl dX11_takesAll_38 ?_
        refine lv_iconst (v := 0) hx hb dX11_takesAll_41 (by decide) ?_
        refine lv_iconst (v := 1) hx hb dX11_takesAll_42 (by decide) ?_
        refine ziast hx hb hK hP hD hS 1 0 rfl rfl (j := 0) (zin (by decide)) (by decide) dX11_takesAll_43 (w2 := (ws_X11_takesAll cI cJ cZ cA q_M q_M_read q_M_text q_M_now u_M_images u_M_kept u_M_sign u_M_manyAbove u_M_manyBelow u_M_above u_M_below u_M_refused u_M_acts u_M_act u_M_waits u_M_wait u_M_held u_M_place u_M_heap u_M_clocks u_M_counts u_M_talking u_M_most u_M_hasA u_M_hasB u_M_talks u_M_big v_M_size v_M_at v_M_begin v_M_kind v_M_value (upd a_M_read 0 1) a_M_text a_M_now)) rfl (fun H locs hP hD hS => ?_)
        refine lv_aload_n hx hb dX11_takesAll_44 rfl (lv_at hl 0 rfl) ?_
        refine zget (C := RX11) (T := TX11) (N := 31) S hK hP 0 rfl rfl 15 (Nat.le_of_ble_eq_true rfl) zf_11 zw_157 rfl dX11_takesAll_45 ?_
        refine lv_iconst (v := 1) hx hb dX11_takesAll_48 (by decide) ?_
        refine lv_iconst (v := 0) hx hb dX11_takesAll_49 (by decide) ?_
        refine ziast hx hb hK hP hD hS 1 0 rfl rfl (j := 1) (zin (by decide)) (by decide) dX11_takesAll_50 (w2 := (ws_X11_takesAll cI cJ cZ cA q_M q_M_read q_M_text q_M_now u_M_images u_M_kept u_M_sign u_M_manyAbove u_M_manyBelow u_M_above u_M_below u_M_refused u_M_acts u_M_act u_M_waits u_M_wait u_M_held u_M_place u_M_heap u_M_clocks u_M_counts u_M_talking u_M_most u_M_hasA u_M_hasB u_M_talks u_M_big v_M_size v_M_at v_M_begin v_M_kind v_M_value (upd (upd a_M_read 0 1) 1 0) a_M_text a_M_now)) rfl (fun H locs hP hD hS => ?_)
        refine lv_aload_n hx hb dX11_takesAll_51 rfl (lv_at hl 0 rfl) ?_
        refine zget (C := RX11) (T := TX11) (N := 31) S hK hP 0 rfl rfl 15 (Nat.le_of_ble_eq_true rfl) zf_11 zw_157 rfl dX11_takesAll_52 ?_
        refine lv_iconst (v := 2) hx hb dX11_takesAll_55 (by decide) ?_
        refine lv_bipush (v := 60) hx hb dX11_takesAll_56 (by decide) ?_
        refine ziast hx hb hK hP hD hS 1 0 rfl rfl (j := 2) (zin (by decide)) (by decide) dX11_takesAll_58 (w2 := (ws_X11_takesAll cI cJ cZ cA q_M q_M_read q_M_text q_M_now u_M_images u_M_kept u_M_sign u_M_manyAbove u_M_manyBelow u_M_above u_M_below u_M_refused u_M_acts u_M_act u_M_waits u_M_wait u_M_held u_M_place u_M_heap u_M_clocks u_M_counts u_M_talking u_M_most u_M_hasA u_M_hasB u_M_talks u_M_big v_M_size v_M_at v_M_begin v_M_kind v_M_value (upd (upd (upd a_M_read 0 1) 1 0) 2 60) a_M_text a_M_now)) rfl (fun H locs hP hD hS => ?_)
        refine lv_iconst (v := 3) hx hb dX11_takesAll_59 (by decide) ?_
        refine lv_istore_n (lv' := [(1, .int 3), (0, .ref q_M)]) hx hb dX11_takesAll_60 rfl hl (by decide) rfl (fun ls hl => ?_)
        exact B61 zF 3 v_M_at v_M_begin v_M_kind v_M_value (upd (upd (upd a_M_read 0 1) 1 0) 2 60) _ _ _ (lv_sub hl [1, 0] rfl) hP hD hS hg
      · have hg := zn hg h6
        refine lv_aload_n hx hb dX11_takesAll_9 rfl (lv_at hl 0 rfl) ?_
        refine zget (C := RX11) (T := TX11) (N := 31) S hK hP 0 rfl rfl 15 (Nat.le_of_ble_eq_true rfl) zf_11 zw_157 rfl dX11_takesAll_10 ?_
        refine lv_iload_n hx hb dX11_takesAll_13 rfl (lv_at hl 1 rfl) ?_
        refine lv_iload_n hx hb dX11_takesAll_14 rfl (lv_at hl 1 rfl) ?_
        refine lv_bipush (v := 13) hx hb dX11_takesAll_15 (by decide) ?_
        refine lv_icmp_ge (tgt := 29) hx hb dX11_takesAll_17 (by decide) (fun h17 => ?_) (fun h17 => ?_)
        · have hg := zp hg h17
          refine lv_iconst (v := 0) hx hb dX11_takesAll_29 (by decide) ?_
          exact B30 (g_X11_takesAll_2 v_M_size a_M_text a_M_now n) ih x1 x1 0 v_M_at v_M_begin v_M_kind v_M_value a_M_read _ _ _ hl hP hD hS hg
        · have hg := zn hg h17
          refine lv_aload_n hx hb dX11_takesAll_20 rfl (lv_at hl 0 rfl) ?_
          refine zget (C := RX11) (T := TX11) (N := 31) S hK hP 0 rfl rfl 0 (Nat.le_of_ble_eq_true rfl) zf_11 zw_149 rfl dX11_takesAll_21 ?_
          refine lv_iload_n hx hb dX11_takesAll_24 rfl (lv_at hl 1 rfl) ?_
          obtain ⟨h21, hg⟩ := zck hg
          refine ziald hx hb hK hP 3 0 rfl rfl (j := (x1.toNatClampNeg)) h21 rfl dX11_takesAll_25 ?_
          refine lv_goto (tgt := 30) hx hb dX11_takesAll_26 (by decide) ?_
          exact B30 (g_X11_takesAll_2 v_M_size a_M_text a_M_now n) ih x1 x1 (a_M_now (x1.toNatClampNeg)) v_M_at v_M_begin v_M_kind v_M_value a_M_read _ _ _ hl hP hD hS hg
  refine lv_iconst (v := 0) hx hb dX11_takesAll_0 (by decide) ?_
  refine lv_istore_n (lv' := [(1, .int 0), (0, .ref q_M)]) hx hb dX11_takesAll_1 rfl hl (by decide) rfl (fun ls hl => ?_)
  exact B2 zF 0 v_M_at v_M_begin v_M_kind v_M_value a_M_read _ _ _ (lv_sub hl [1, 0] rfl) hP hD hS hg

/-! SpokenClockModel.read()I -/
abbrev ws_X11_read (cI cJ cZ cA : ClassId) (q_M q_M_read q_M_text q_M_now : Nat) (u_M_images : Value) (u_M_kept : Value) (u_M_sign : Value) (u_M_manyAbove : Value) (u_M_manyBelow : Value) (u_M_above : Value) (u_M_below : Value) (u_M_refused : Value) (u_M_acts : Value) (u_M_act : Value) (u_M_waits : Value) (u_M_wait : Value) (u_M_held : Value) (u_M_place : Value) (u_M_heap : Value) (u_M_clocks : Value) (u_M_counts : Value) (u_M_talking : Value) (u_M_most : Value) (u_M_hasA : Value) (u_M_hasB : Value) (u_M_talks : Value) (u_M_big : Value) (v_M_size : Int32) (v_M_at : Int32) (v_M_begin : Int32) (v_M_kind : Int32) (v_M_value : Int64) (a_M_read : Nat → Int32) (a_M_text : Nat → Int32) (a_M_now : Nat → Int32) : va_W := [(q_M, .inr (11, [.ref q_M_now, u_M_images, u_M_kept, .ref q_M_text, .int v_M_size, u_M_sign, u_M_manyAbove, u_M_manyBelow, u_M_above, u_M_below, u_M_refused, .int v_M_at, .int v_M_begin, .int v_M_kind, .long v_M_value, .ref q_M_read, u_M_acts, u_M_act, u_M_waits, u_M_wait, u_M_held, u_M_place, u_M_heap, u_M_clocks, u_M_counts, u_M_talking, u_M_most, u_M_hasA, u_M_hasB, u_M_talks, u_M_big])), (q_M_read, .inl (cI, 155, .inl a_M_read)), (q_M_text, .inl (cI, 250, .inl a_M_text)), (q_M_now, .inl (cI, 155, .inl a_M_now))]
abbrev rm_X11_read : Room := { frames := 6, cells := 0, slots := 0, locals := 132 }
def g_X11_read_19b (v_M_size : Int32) (a_M_text : Nat → Int32) (k19 : Int32 → Int32 → Int32 → Int32 → Int32 → Int64 → (Nat → Int32) → (Nat → Int32) → Option (Int32 × Int32 × Int32 × Int32 × Int64 × (Nat → Int32) × (Nat → Int32))) (x1 : Int32) (x2 : Int32) (v_M_at : Int32) (v_M_begin : Int32) (v_M_kind : Int32) (v_M_value : Int64) (a_M_read : Nat → Int32) (a_M_now : Nat → Int32) : Option (Int32 × Int32 × Int32 × Int32 × Int64 × (Nat → Int32) × (Nat → Int32)) :=
  if 115 ≤ x2 then (
    some (x1, v_M_at, v_M_begin, v_M_kind, v_M_value, a_M_read, a_M_now)
  ) else (
    if x2 < 0 ∨ 155 ≤ x2.toNatClampNeg then none else
    if x2 < 0 ∨ 155 ≤ x2.toNatClampNeg then none else
    k19 x1 (x2 + 1) v_M_at v_M_begin v_M_kind v_M_value a_M_read (upd a_M_now (x2.toNatClampNeg) (a_M_read (x2.toNatClampNeg)))
  )
def g_X11_read_19 (v_M_size : Int32) (a_M_text : Nat → Int32) : Nat → Int32 → Int32 → Int32 → Int32 → Int32 → Int64 → (Nat → Int32) → (Nat → Int32) → Option (Int32 × Int32 × Int32 × Int32 × Int64 × (Nat → Int32) × (Nat → Int32))
  | 0, _, _, _, _, _, _, _, _ => none
  | n + 1, x1, x2, v_M_at, v_M_begin, v_M_kind, v_M_value, a_M_read, a_M_now => g_X11_read_19b v_M_size a_M_text (g_X11_read_19 v_M_size a_M_text n) x1 x2 v_M_at v_M_begin v_M_kind v_M_value a_M_read a_M_now
def g_X11_read (v_M_size : Int32) (a_M_text : Nat → Int32) (v_M_at : Int32) (v_M_begin : Int32) (v_M_kind : Int32) (v_M_value : Int64) (a_M_read : Nat → Int32) (a_M_now : Nat → Int32) : Option (Int32 × Int32 × Int32 × Int32 × Int64 × (Nat → Int32) × (Nat → Int32)) :=
  (g_X11_takesAll v_M_size a_M_text a_M_now v_M_at v_M_begin v_M_kind v_M_value a_M_read).bind fun v1 =>
  if 0 ≤ v1.1 then (
    g_X11_read_19 v_M_size a_M_text zF v1.1 0 v1.2.1 v1.2.2.1 v1.2.2.2.1 v1.2.2.2.2.1 v1.2.2.2.2.2 a_M_now
  ) else (
    some ((-10) - v1.2.2.1, v1.2.1, v1.2.2.1, v1.2.2.2.1, v1.2.2.2.2.1, v1.2.2.2.2.2, a_M_now)
  )
theorem hd_X11_read : yX11_read.cls = RX11 ∧ yX11_read.cls ≠ "java/lang/invoke/MethodHandle" ∧ yX11_read.cls ≠ "java/lang/invoke/VarHandle" ∧ (parseMethodDescriptor yX11_read.desc).map (fun d => d.parameters.length) = some 0 := by decide +kernel
set_option maxHeartbeats 4000000 in
set_option maxRecDepth 100000 in
theorem c_X11_read (l : Launch) (D : va_G) (cI cJ cZ cA : ClassId) (ga : Nat → Nat) (q_M q_M_read q_M_text q_M_now : Nat) (u_M_images : Value) (u_M_kept : Value) (u_M_sign : Value) (u_M_manyAbove : Value) (u_M_manyBelow : Value) (u_M_above : Value) (u_M_below : Value) (u_M_refused : Value) (u_M_acts : Value) (u_M_act : Value) (u_M_waits : Value) (u_M_wait : Value) (u_M_held : Value) (u_M_place : Value) (u_M_heap : Value) (u_M_clocks : Value) (u_M_counts : Value) (u_M_talking : Value) (u_M_most : Value) (u_M_hasA : Value) (u_M_hasB : Value) (u_M_talks : Value) (u_M_big : Value) (v_M_size : Int32) (v_M_at : Int32) (v_M_begin : Int32) (v_M_kind : Int32) (v_M_value : Int64) (a_M_read : Nat → Int32) (a_M_text : Nat → Int32) (a_M_now : Nat → Int32) (o : Int32 × Int32 × Int32 × Int32 × Int64 × (Nat → Int32) × (Nat → Int32)) (hg : g_X11_read v_M_size a_M_text v_M_at v_M_begin v_M_kind v_M_value a_M_read a_M_now = some o) : zM l yX11_read (Cond.code yX11_read cX11_read 3 (some .int) :: wsL_law) rm_X11_read D (zTy cI cJ cZ cA) ga [.ref q_M] (ws_X11_read cI cJ cZ cA q_M q_M_read q_M_text q_M_now u_M_images u_M_kept u_M_sign u_M_manyAbove u_M_manyBelow u_M_above u_M_below u_M_refused u_M_acts u_M_act u_M_waits u_M_wait u_M_held u_M_place u_M_heap u_M_clocks u_M_counts u_M_talking u_M_most u_M_hasA u_M_hasB u_M_talks u_M_big v_M_size v_M_at v_M_begin v_M_kind v_M_value a_M_read a_M_text a_M_now) (ws_X11_read cI cJ cZ cA q_M q_M_read q_M_text q_M_now u_M_images u_M_kept u_M_sign u_M_manyAbove u_M_manyBelow u_M_above u_M_below u_M_refused u_M_acts u_M_act u_M_waits u_M_wait u_M_held u_M_place u_M_heap u_M_clocks u_M_counts u_M_talking u_M_most u_M_hasA u_M_hasB u_M_talks u_M_big v_M_size o.2.1 o.2.2.1 o.2.2.2.1 o.2.2.2.2.1 o.2.2.2.2.2.1 a_M_text o.2.2.2.2.2.2) (some (.int o.1)) := by
  refine zenterI (own := RX11) (by decide) rfl rfl (Nat.le_of_ble_eq_true rfl) ?_
  intro p e s m args below meth c A ls Q S hA hK hG hl hP hD hS hret0
  have hx := S.1
  have hb := S.2.1
  have ht : ∀ w, w ∈ wsL_law → w.before args s = true := fun w h => S.2.2.2.2 w (List.mem_cons_of_mem _ h)
  have hret : ∀ (r9 : Int32) (v_M_at : Int32) (v_M_begin : Int32) (v_M_kind : Int32) (v_M_value : Int64) (a_M_read : Nat → Int32) (a_M_now : Nat → Int32), (some (r9, v_M_at, v_M_begin, v_M_kind, v_M_value, a_M_read, a_M_now) : Option (Int32 × Int32 × Int32 × Int32 × Int64 × (Nat → Int32) × (Nat → Int32))) = some o → ∀ (H : Heap) (locs : List Loc) (pc : Nat) (ls : Array Slot), va_P D vwCl (ws_X11_read cI cJ cZ cA q_M q_M_read q_M_text q_M_now u_M_images u_M_kept u_M_sign u_M_manyAbove u_M_manyBelow u_M_above u_M_below u_M_refused u_M_acts u_M_act u_M_waits u_M_wait u_M_held u_M_place u_M_heap u_M_clocks u_M_counts u_M_talking u_M_most u_M_hasA u_M_hasB u_M_talks u_M_big v_M_size v_M_at v_M_begin v_M_kind v_M_value a_M_read a_M_text a_M_now) H → va_S A s.heap H locs → decode cX11_read pc = .ok (.ireturn, 1) → W p l e rm_X11_read s m args below meth c H locs 0 0 Q (F0 m pc ls [.int r9]) := by
    intro r9 v_M_at v_M_begin v_M_kind v_M_value a_M_read a_M_now he; cases he; exact hret0
  have hl : lv_has ls 3 [(0, .ref q_M)] := hl
  have B19 : ∀  (n : Nat) (x1 : Int32) (x2 : Int32) (v_M_at : Int32) (v_M_begin : Int32) (v_M_kind : Int32) (v_M_value : Int64) (a_M_read : Nat → Int32) (a_M_now : Nat → Int32) (H : Heap) (locs : List Loc) (ls : Array Slot) (hl : lv_has ls 3 [(0, .ref q_M), (1, .int x1), (2, .int x2)]) (hP : va_P D vwCl (ws_X11_read cI cJ cZ cA q_M q_M_read q_M_text q_M_now u_M_images u_M_kept u_M_sign u_M_manyAbove u_M_manyBelow u_M_above u_M_below u_M_refused u_M_acts u_M_act u_M_waits u_M_wait u_M_held u_M_place u_M_heap u_M_clocks u_M_counts u_M_talking u_M_most u_M_hasA u_M_hasB u_M_talks u_M_big v_M_size v_M_at v_M_begin v_M_kind v_M_value a_M_read a_M_text a_M_now) H) (hD : va_D A (ws_X11_read cI cJ cZ cA q_M q_M_read q_M_text q_M_now u_M_images u_M_kept u_M_sign u_M_manyAbove u_M_manyBelow u_M_above u_M_below u_M_refused u_M_acts u_M_act u_M_waits u_M_wait u_M_held u_M_place u_M_heap u_M_clocks u_M_counts u_M_talking u_M_most u_M_hasA u_M_hasB u_M_talks u_M_big v_M_size v_M_at v_M_begin v_M_kind v_M_value a_M_read a_M_text a_M_now)) (hS : va_S A s.heap H locs), g_X11_read_19 v_M_size a_M_text n x1 x2 v_M_at v_M_begin v_M_kind v_M_value a_M_read a_M_now = some o → W p l e rm_X11_read s m args below meth c H locs 0 0 Q (F0 m 19 ls []) := by
    intro  n
    induction n with
    | zero => intro x1 x2 v_M_at v_M_begin v_M_kind v_M_value a_M_read a_M_now H locs ls hl hP hD hS hg; exact nomatch (show (none : Option (Int32 × Int32 × Int32 × Int32 × Int64 × (Nat → Int32) × (Nat → Int32))) = some o from hg)
    | succ n ih =>
      intro x1 x2 v_M_at v_M_begin v_M_kind v_M_value a_M_read a_M_now H locs ls hl hP hD hS hg
      have hg : g_X11_read_19b v_M_size a_M_text (g_X11_read_19 v_M_size a_M_text n) x1 x2 v_M_at v_M_begin v_M_kind v_M_value a_M_read a_M_now = some o := hg
      refine lv_iload_n hx hb dX11_read_19 rfl (lv_at hl 2 rfl) ?_
      refine lv_bipush (v := 115) hx hb dX11_read_20 (by decide) ?_
      refine lv_icmp_ge (tgt := 43) hx hb dX11_read_22 (by decide) (fun h22 => ?_) (fun h22 => ?_)
      · have hg := zp hg h22
        refine lv_iload_n hx hb dX11_read_43 rfl (lv_at hl 1 rfl) ?_
        exact hret x1 v_M_at v_M_begin v_M_kind v_M_value a_M_read a_M_now hg _ _ _ _ hP hS dX11_read_44
      · have hg := zn hg h22
        refine lv_aload_n hx hb dX11_read_25 rfl (lv_at hl 0 rfl) ?_
        refine zget (C := RX11) (T := TX11) (N := 31) S hK hP 0 rfl rfl 0 (Nat.le_of_ble_eq_true rfl) zf_11 zw_149 rfl dX11_read_26 ?_
        refine lv_iload_n hx hb dX11_read_29 rfl (lv_at hl 2 rfl) ?_
        refine lv_aload_n hx hb dX11_read_30 rfl (lv_at hl 0 rfl) ?_
        refine zget (C := RX11) (T := TX11) (N := 31) S hK hP 0 rfl rfl 15 (Nat.le_of_ble_eq_true rfl) zf_11 zw_157 rfl dX11_read_31 ?_
        refine lv_iload_n hx hb dX11_read_34 rfl (lv_at hl 2 rfl) ?_
        obtain ⟨h3, hg⟩ := zck hg
        refine ziald hx hb hK hP 1 0 rfl rfl (j := (x2.toNatClampNeg)) h3 rfl dX11_read_35 ?_
        obtain ⟨h4, hg⟩ := zck hg
        refine ziast hx hb hK hP hD hS 3 0 rfl rfl (j := (x2.toNatClampNeg)) h4 rfl dX11_read_36 (w2 := (ws_X11_read cI cJ cZ cA q_M q_M_read q_M_text q_M_now u_M_images u_M_kept u_M_sign u_M_manyAbove u_M_manyBelow u_M_above u_M_below u_M_refused u_M_acts u_M_act u_M_waits u_M_wait u_M_held u_M_place u_M_heap u_M_clocks u_M_counts u_M_talking u_M_most u_M_hasA u_M_hasB u_M_talks u_M_big v_M_size v_M_at v_M_begin v_M_kind v_M_value a_M_read a_M_text (upd a_M_now (x2.toNatClampNeg) (a_M_read (x2.toNatClampNeg))))) rfl (fun H locs hP hD hS => ?_)
        refine lv_iinc (k := 2) (v := x2 + 1) (lv' := [(2, .int (x2 + 1)), (0, .ref q_M), (1, .int x1)]) hx hb dX11_read_37 hl rfl (zinc (by decide)) (by decide) rfl (fun ls hl => ?_)
        refine lv_goto (tgt := 19) hx hb dX11_read_40 (by decide) ?_
        exact ih x1 (x2 + 1) v_M_at v_M_begin v_M_kind v_M_value a_M_read (upd a_M_now (x2.toNatClampNeg) (a_M_read (x2.toNatClampNeg))) _ _ _ (lv_sub hl [1, 2, 0] rfl) hP hD hS hg
  refine lv_aload_n hx hb dX11_read_0 rfl (lv_at hl 0 rfl) ?_
  obtain ⟨v1, hc2, hg⟩ := zbd hg
  refine zcallV (rest := []) S (c_X11_takesAll l D cI cJ cZ cA ga q_M q_M_read q_M_text q_M_now u_M_images u_M_kept u_M_sign u_M_manyAbove u_M_manyBelow u_M_above u_M_below u_M_refused u_M_acts u_M_act u_M_waits u_M_wait u_M_held u_M_place u_M_heap u_M_clocks u_M_counts u_M_talking u_M_most u_M_hasA u_M_hasB u_M_talks u_M_big v_M_size v_M_at v_M_begin v_M_kind v_M_value a_M_read a_M_text a_M_now v1 hc2) (zgV zw_450 zw_451 zw_452 zw_5 zw_453) rfl hd_X11_takesAll ⟨rfl, rfl⟩ ⟨Nat.le_of_ble_eq_true rfl, Nat.le_of_ble_eq_true rfl⟩ 0 11 rfl rfl rfl hl.1 rfl (Nat.le_of_ble_eq_true rfl) dX11_read_1 hP hD hS hA hK hG (isC := [0, 1, 2, 3]) rfl rfl rfl (w2 := (ws_X11_read cI cJ cZ cA q_M q_M_read q_M_text q_M_now u_M_images u_M_kept u_M_sign u_M_manyAbove u_M_manyBelow u_M_above u_M_below u_M_refused u_M_acts u_M_act u_M_waits u_M_wait u_M_held u_M_place u_M_heap u_M_clocks u_M_counts u_M_talking u_M_most u_M_hasA u_M_hasB u_M_talks u_M_big v_M_size v1.2.1 v1.2.2.1 v1.2.2.2.1 v1.2.2.2.2.1 v1.2.2.2.2.2 a_M_text a_M_now)) rfl (st1 := [.int v1.1]) rfl (fun H locs hP hD hS => ?_)
  refine lv_istore_n (lv' := [(1, .int v1.1), (0, .ref q_M)]) hx hb dX11_read_4 rfl hl (by decide) rfl (fun ls hl => ?_)
  refine lv_iload_n hx hb dX11_read_5 rfl (lv_at hl 0 rfl) ?_
  refine lv_if_ge (tgt := 17) hx hb dX11_read_6 (by decide) (fun h6 => ?_) (fun h6 => ?_)
  · have hg := zp hg h6
    refine lv_iconst (v := 0) hx hb dX11_read_17 (by decide) ?_
    refine lv_istore_n (lv' := [(2, .int 0), (1, .int v1.1), (0, .ref q_M)]) hx hb dX11_read_18 rfl hl (by decide) rfl (fun ls hl => ?_)
    exact B19 zF v1.1 0 v1.2.1 v1.2.2.1 v1.2.2.2.1 v1.2.2.2.2.1 v1.2.2.2.2.2 a_M_now _ _ _ (lv_sub hl [2, 1, 0] rfl) hP hD hS hg
  · have hg := zn hg h6
    refine lv_bipush (v := (-10)) hx hb dX11_read_9 (by decide) ?_
    refine lv_aload_n hx hb dX11_read_11 rfl (lv_at hl 1 rfl) ?_
    refine zget (C := RX11) (T := TX11) (N := 31) S hK hP 0 rfl rfl 12 (Nat.le_of_ble_eq_true rfl) zf_11 zw_449 rfl dX11_read_12 ?_
    refine lv_isub hx hb dX11_read_15 ?_
    exact hret ((-10) - v1.2.2.1) v1.2.1 v1.2.2.1 v1.2.2.2.1 v1.2.2.2.2.1 v1.2.2.2.2.2 a_M_now hg _ _ _ _ hP hS dX11_read_16

/-! SpokenClockModel.write(I)I -/
abbrev ws_X11_write (cI cJ cZ cA : ClassId) (q_M q_M_now q_M_refused : Nat) (u_M_images : Value) (u_M_kept : Value) (u_M_text : Value) (u_M_size : Value) (u_M_sign : Value) (u_M_manyAbove : Value) (u_M_manyBelow : Value) (u_M_above : Value) (u_M_below : Value) (u_M_at : Value) (u_M_begin : Value) (u_M_kind : Value) (u_M_value : Value) (u_M_read : Value) (u_M_acts : Value) (u_M_act : Value) (u_M_waits : Value) (u_M_wait : Value) (u_M_held : Value) (u_M_place : Value) (u_M_heap : Value) (u_M_clocks : Value) (u_M_counts : Value) (u_M_talking : Value) (u_M_most : Value) (u_M_hasA : Value) (u_M_hasB : Value) (u_M_talks : Value) (u_M_big : Value) (a_M_now : Nat → Int32) (a_M_refused : Nat → Int32) : va_W := [(q_M, .inr (11, [.ref q_M_now, u_M_images, u_M_kept, u_M_text, u_M_size, u_M_sign, u_M_manyAbove, u_M_manyBelow, u_M_above, u_M_below, .ref q_M_refused, u_M_at, u_M_begin, u_M_kind, u_M_value, u_M_read, u_M_acts, u_M_act, u_M_waits, u_M_wait, u_M_held, u_M_place, u_M_heap, u_M_clocks, u_M_counts, u_M_talking, u_M_most, u_M_hasA, u_M_hasB, u_M_talks, u_M_big])), (q_M_now, .inl (cI, 155, .inl a_M_now)), (q_M_refused, .inl (cI, 3, .inl a_M_refused))]
abbrev rm_X11_write : Room := { frames := 1, cells := 0, slots := 0, locals := 25 }
def g_X11_write (x1 : Int32) (a_M_now : Nat → Int32) (a_M_refused : Nat → Int32) : Option (Int32 × (Nat → Int32) × (Nat → Int32)) :=
  (g_X11_in x1.toInt64 (0 : Int64) (127 : Int64)).bind fun v1 =>
  if v1 = 0 then (
    (g_X11_refuse (-2) a_M_refused).bind fun v6 =>
    some (v6.1, a_M_now, v6.2)
  ) else (
    if (a_M_now 7) = 40 then (
      (g_X11_refuse (-4) a_M_refused).bind fun v4 =>
      some (v4.1, a_M_now, v4.2)
    ) else (
      if (115 + (a_M_now 7)) < 0 ∨ 155 ≤ (115 + (a_M_now 7)).toNatClampNeg then none else
      some ((upd (upd a_M_now ((115 + (a_M_now 7)).toNatClampNeg) x1) 7 (((upd a_M_now ((115 + (a_M_now 7)).toNatClampNeg) x1) 7) + 1)) 7, upd (upd a_M_now ((115 + (a_M_now 7)).toNatClampNeg) x1) 7 (((upd a_M_now ((115 + (a_M_now 7)).toNatClampNeg) x1) 7) + 1), a_M_refused)
    )
  )
theorem hd_X11_write : yX11_write.cls = RX11 ∧ yX11_write.cls ≠ "java/lang/invoke/MethodHandle" ∧ yX11_write.cls ≠ "java/lang/invoke/VarHandle" ∧ (parseMethodDescriptor yX11_write.desc).map (fun d => d.parameters.length) = some 1 := by decide +kernel
set_option maxHeartbeats 4000000 in
set_option maxRecDepth 100000 in
theorem c_X11_write (l : Launch) (D : va_G) (cI cJ cZ cA : ClassId) (ga : Nat → Nat) (q_M q_M_now q_M_refused : Nat) (u_M_images : Value) (u_M_kept : Value) (u_M_text : Value) (u_M_size : Value) (u_M_sign : Value) (u_M_manyAbove : Value) (u_M_manyBelow : Value) (u_M_above : Value) (u_M_below : Value) (u_M_at : Value) (u_M_begin : Value) (u_M_kind : Value) (u_M_value : Value) (u_M_read : Value) (u_M_acts : Value) (u_M_act : Value) (u_M_waits : Value) (u_M_wait : Value) (u_M_held : Value) (u_M_place : Value) (u_M_heap : Value) (u_M_clocks : Value) (u_M_counts : Value) (u_M_talking : Value) (u_M_most : Value) (u_M_hasA : Value) (u_M_hasB : Value) (u_M_talks : Value) (u_M_big : Value) (a_M_now : Nat → Int32) (a_M_refused : Nat → Int32) (x1 : Int32) (o : Int32 × (Nat → Int32) × (Nat → Int32)) (hg : g_X11_write x1 a_M_now a_M_refused = some o) : zM l yX11_write (Cond.code yX11_write cX11_write 2 (some .int) :: wsL_law) rm_X11_write D (zTy cI cJ cZ cA) ga [.ref q_M, .int x1] (ws_X11_write cI cJ cZ cA q_M q_M_now q_M_refused u_M_images u_M_kept u_M_text u_M_size u_M_sign u_M_manyAbove u_M_manyBelow u_M_above u_M_below u_M_at u_M_begin u_M_kind u_M_value u_M_read u_M_acts u_M_act u_M_waits u_M_wait u_M_held u_M_place u_M_heap u_M_clocks u_M_counts u_M_talking u_M_most u_M_hasA u_M_hasB u_M_talks u_M_big a_M_now a_M_refused) (ws_X11_write cI cJ cZ cA q_M q_M_now q_M_refused u_M_images u_M_kept u_M_text u_M_size u_M_sign u_M_manyAbove u_M_manyBelow u_M_above u_M_below u_M_at u_M_begin u_M_kind u_M_value u_M_read u_M_acts u_M_act u_M_waits u_M_wait u_M_held u_M_place u_M_heap u_M_clocks u_M_counts u_M_talking u_M_most u_M_hasA u_M_hasB u_M_talks u_M_big o.2.1 o.2.2) (some (.int o.1)) := by
  refine zenterI (own := RX11) (by decide) rfl rfl (Nat.le_of_ble_eq_true rfl) ?_
  intro p e s m args below meth c A ls Q S hA hK hG hl hP hD hS hret0
  have hx := S.1
  have hb := S.2.1
  have ht : ∀ w, w ∈ wsL_law → w.before args s = true := fun w h => S.2.2.2.2 w (List.mem_cons_of_mem _ h)
  have hret : ∀ (r9 : Int32) (a_M_now : Nat → Int32) (a_M_refused : Nat → Int32), (some (r9, a_M_now, a_M_refused) : Option (Int32 × (Nat → Int32) × (Nat → Int32))) = some o → ∀ (H : Heap) (locs : List Loc) (pc : Nat) (ls : Array Slot), va_P D vwCl (ws_X11_write cI cJ cZ cA q_M q_M_now q_M_refused u_M_images u_M_kept u_M_text u_M_size u_M_sign u_M_manyAbove u_M_manyBelow u_M_above u_M_below u_M_at u_M_begin u_M_kind u_M_value u_M_read u_M_acts u_M_act u_M_waits u_M_wait u_M_held u_M_place u_M_heap u_M_clocks u_M_counts u_M_talking u_M_most u_M_hasA u_M_hasB u_M_talks u_M_big a_M_now a_M_refused) H → va_S A s.heap H locs → decode cX11_write pc = .ok (.ireturn, 1) → W p l e rm_X11_write s m args below meth c H locs 0 0 Q (F0 m pc ls [.int r9]) := by
    intro r9 a_M_now a_M_refused he; cases he; exact hret0
  have hl : lv_has ls 2 [(0, .ref q_M), (1, .int x1)] := hl
  refine lv_iload_n hx hb dX11_write_0 rfl (lv_at hl 1 rfl) ?_
  refine lv_i2l hx hb dX11_write_1 rfl ?_
  refine lv_lconst (v := 0) hx hb dX11_write_2 (by decide) ?_
  refine lv_ldc2 (v := 127) hx hb S.2.2.2.1 (ht _ zw_520) dX11_write_3 ?_
  obtain ⟨v1, hc2, hg⟩ := zbd hg
  refine zcallS (rest := []) S (c_X11_in l D cI cJ cZ cA ga x1.toInt64 (0 : Int64) (127 : Int64) v1 hc2) (zgS zw_220 zw_221 zw_5 zw_222) rfl hd_X11_in ⟨rfl, rfl⟩ ⟨Nat.le_of_ble_eq_true rfl, Nat.le_of_ble_eq_true rfl⟩ rfl hl.1 rfl (Nat.le_of_ble_eq_true rfl) dX11_write_6 hP hD hS hA hK hG (isC := []) rfl rfl rfl (w2 := (ws_X11_write cI cJ cZ cA q_M q_M_now q_M_refused u_M_images u_M_kept u_M_text u_M_size u_M_sign u_M_manyAbove u_M_manyBelow u_M_above u_M_below u_M_at u_M_begin u_M_kind u_M_value u_M_read u_M_acts u_M_act u_M_waits u_M_wait u_M_held u_M_place u_M_heap u_M_clocks u_M_counts u_M_talking u_M_most u_M_hasA u_M_hasB u_M_talks u_M_big a_M_now a_M_refused)) rfl (st1 := [.int v1]) rfl (fun H locs hP hD hS => ?_)
  refine lv_if_ne (tgt := 19) hx hb dX11_write_9 (by decide) (fun h9 => ?_) (fun h9 => ?_)
  · have hg := zn hg h9
    refine lv_aload_n hx hb dX11_write_19 rfl (lv_at hl 0 rfl) ?_
    refine zget (C := RX11) (T := TX11) (N := 31) S hK hP 0 rfl rfl 0 (Nat.le_of_ble_eq_true rfl) zf_11 zw_149 rfl dX11_write_20 ?_
    refine lv_bipush (v := 7) hx hb dX11_write_23 (by decide) ?_
    refine ziald hx hb hK hP 1 0 rfl rfl (j := 7) (zin (by decide)) (by decide) dX11_write_25 ?_
    refine lv_bipush (v := 40) hx hb dX11_write_26 (by decide) ?_
    refine lv_icmp_ne (tgt := 38) hx hb dX11_write_28 (by decide) (fun h28 => ?_) (fun h28 => ?_)
    · have hg := zn hg h28
      refine lv_aload_n hx hb dX11_write_38 rfl (lv_at hl 0 rfl) ?_
      refine zget (C := RX11) (T := TX11) (N := 31) S hK hP 0 rfl rfl 0 (Nat.le_of_ble_eq_true rfl) zf_11 zw_149 rfl dX11_write_39 ?_
      refine lv_bipush (v := 115) hx hb dX11_write_42 (by decide) ?_
      refine lv_aload_n hx hb dX11_write_44 rfl (lv_at hl 0 rfl) ?_
      refine zget (C := RX11) (T := TX11) (N := 31) S hK hP 0 rfl rfl 0 (Nat.le_of_ble_eq_true rfl) zf_11 zw_149 rfl dX11_write_45 ?_
      refine lv_bipush (v := 7) hx hb dX11_write_48 (by decide) ?_
      refine ziald hx hb hK hP 1 0 rfl rfl (j := 7) (zin (by decide)) (by decide) dX11_write_50 ?_
      refine lv_iadd hx hb dX11_write_51 ?_
      refine lv_iload_n hx hb dX11_write_52 rfl (lv_at hl 1 rfl) ?_
      obtain ⟨h3, hg⟩ := zck hg
      refine ziast hx hb hK hP hD hS 1 0 rfl rfl (j := ((115 + (a_M_now 7)).toNatClampNeg)) h3 rfl dX11_write_53 (w2 := (ws_X11_write cI cJ cZ cA q_M q_M_now q_M_refused u_M_images u_M_kept u_M_text u_M_size u_M_sign u_M_manyAbove u_M_manyBelow u_M_above u_M_below u_M_at u_M_begin u_M_kind u_M_value u_M_read u_M_acts u_M_act u_M_waits u_M_wait u_M_held u_M_place u_M_heap u_M_clocks u_M_counts u_M_talking u_M_most u_M_hasA u_M_hasB u_M_talks u_M_big (upd a_M_now ((115 + (a_M_now 7)).toNatClampNeg) x1) a_M_refused)) rfl (fun H locs hP hD hS => ?_)
      refine lv_aload_n hx hb dX11_write_54 rfl (lv_at hl 0 rfl) ?_
      refine zget (C := RX11) (T := TX11) (N := 31) S hK hP 0 rfl rfl 0 (Nat.le_of_ble_eq_true rfl) zf_11 zw_149 rfl dX11_write_55 ?_
      refine lv_bipush (v := 7) hx hb dX11_write_58 (by decide) ?_
      refine lv_dup2_11 hx hb dX11_write_60 rfl rfl ?_
      refine ziald hx hb hK hP 1 0 rfl rfl (j := 7) (zin (by decide)) (by decide) dX11_write_61 ?_
      refine lv_iconst (v := 1) hx hb dX11_write_62 (by decide) ?_
      refine lv_iadd hx hb dX11_write_63 ?_
      refine ziast hx hb hK hP hD hS 1 0 rfl rfl (j := 7) (zin (by decide)) (by decide) dX11_write_64 (w2 := (ws_X11_write cI cJ cZ cA q_M q_M_now q_M_refused u_M_images u_M_kept u_M_text u_M_size u_M_sign u_M_manyAbove u_M_manyBelow u_M_above u_M_below u_M_at u_M_begin u_M_kind u_M_value u_M_read u_M_acts u_M_act u_M_waits u_M_wait u_M_held u_M_place u_M_heap u_M_clocks u_M_counts u_M_talking u_M_most u_M_hasA u_M_hasB u_M_talks u_M_big (upd (upd a_M_now ((115 + (a_M_now 7)).toNatClampNeg) x1) 7 (((upd a_M_now ((115 + (a_M_now 7)).toNatClampNeg) x1) 7) + 1)) a_M_refused)) rfl (fun H locs hP hD hS => ?_)
      refine lv_aload_n hx hb dX11_write_65 rfl (lv_at hl 0 rfl) ?_
      refine zget (C := RX11) (T := TX11) (N := 31) S hK hP 0 rfl rfl 0 (Nat.le_of_ble_eq_true rfl) zf_11 zw_149 rfl dX11_write_66 ?_
      refine lv_bipush (v := 7) hx hb dX11_write_69 (by decide) ?_
      refine ziald hx hb hK hP 1 0 rfl rfl (j := 7) (zin (by decide)) (by decide) dX11_write_71 ?_
      exact hret ((upd (upd a_M_now ((115 + (a_M_now 7)).toNatClampNeg) x1) 7 (((upd a_M_now ((115 + (a_M_now 7)).toNatClampNeg) x1) 7) + 1)) 7) (upd (upd a_M_now ((115 + (a_M_now 7)).toNatClampNeg) x1) 7 (((upd a_M_now ((115 + (a_M_now 7)).toNatClampNeg) x1) 7) + 1)) a_M_refused hg _ _ _ _ hP hS dX11_write_72
    · have hg := zp hg h28
      refine lv_aload_n hx hb dX11_write_31 rfl (lv_at hl 0 rfl) ?_
      refine lv_bipush (v := (-4)) hx hb dX11_write_32 (by decide) ?_
      obtain ⟨v4, hc5, hg⟩ := zbd hg
      refine zcallV (rest := []) S (c_X11_refuse l D cI cJ cZ cA ga q_M q_M_refused (.ref q_M_now) u_M_images u_M_kept u_M_text u_M_size u_M_sign u_M_manyAbove u_M_manyBelow u_M_above u_M_below u_M_at u_M_begin u_M_kind u_M_value u_M_read u_M_acts u_M_act u_M_waits u_M_wait u_M_held u_M_place u_M_heap u_M_clocks u_M_counts u_M_talking u_M_most u_M_hasA u_M_hasB u_M_talks u_M_big a_M_refused (-4) v4 hc5) (zgV zw_223 zw_224 zw_225 zw_5 zw_226) rfl hd_X11_refuse ⟨rfl, rfl⟩ ⟨Nat.le_of_ble_eq_true rfl, Nat.le_of_ble_eq_true rfl⟩ 0 11 rfl rfl rfl hl.1 rfl (Nat.le_of_ble_eq_true rfl) dX11_write_34 hP hD hS hA hK hG (isC := [0, 2]) rfl rfl rfl (w2 := (ws_X11_write cI cJ cZ cA q_M q_M_now q_M_refused u_M_images u_M_kept u_M_text u_M_size u_M_sign u_M_manyAbove u_M_manyBelow u_M_above u_M_below u_M_at u_M_begin u_M_kind u_M_value u_M_read u_M_acts u_M_act u_M_waits u_M_wait u_M_held u_M_place u_M_heap u_M_clocks u_M_counts u_M_talking u_M_most u_M_hasA u_M_hasB u_M_talks u_M_big a_M_now v4.2)) rfl (st1 := [.int v4.1]) rfl (fun H locs hP hD hS => ?_)
      exact hret v4.1 a_M_now v4.2 hg _ _ _ _ hP hS dX11_write_37
  · have hg := zp hg h9
    refine lv_aload_n hx hb dX11_write_12 rfl (lv_at hl 0 rfl) ?_
    refine lv_bipush (v := (-2)) hx hb dX11_write_13 (by decide) ?_
    obtain ⟨v6, hc7, hg⟩ := zbd hg
    refine zcallV (rest := []) S (c_X11_refuse l D cI cJ cZ cA ga q_M q_M_refused (.ref q_M_now) u_M_images u_M_kept u_M_text u_M_size u_M_sign u_M_manyAbove u_M_manyBelow u_M_above u_M_below u_M_at u_M_begin u_M_kind u_M_value u_M_read u_M_acts u_M_act u_M_waits u_M_wait u_M_held u_M_place u_M_heap u_M_clocks u_M_counts u_M_talking u_M_most u_M_hasA u_M_hasB u_M_talks u_M_big a_M_refused (-2) v6 hc7) (zgV zw_223 zw_224 zw_225 zw_5 zw_226) rfl hd_X11_refuse ⟨rfl, rfl⟩ ⟨Nat.le_of_ble_eq_true rfl, Nat.le_of_ble_eq_true rfl⟩ 0 11 rfl rfl rfl hl.1 rfl (Nat.le_of_ble_eq_true rfl) dX11_write_15 hP hD hS hA hK hG (isC := [0, 2]) rfl rfl rfl (w2 := (ws_X11_write cI cJ cZ cA q_M q_M_now q_M_refused u_M_images u_M_kept u_M_text u_M_size u_M_sign u_M_manyAbove u_M_manyBelow u_M_above u_M_below u_M_at u_M_begin u_M_kind u_M_value u_M_read u_M_acts u_M_act u_M_waits u_M_wait u_M_held u_M_place u_M_heap u_M_clocks u_M_counts u_M_talking u_M_most u_M_hasA u_M_hasB u_M_talks u_M_big a_M_now v6.2)) rfl (st1 := [.int v6.1]) rfl (fun H locs hP hD hS => ?_)
    exact hret v6.1 a_M_now v6.2 hg _ _ _ _ hP hS dX11_write_18

/-! SpokenClockModel.erase()I -/
abbrev ws_X11_erase (cI cJ cZ cA : ClassId) (q_M q_M_now : Nat) (u_M_images : Value) (u_M_kept : Value) (u_M_text : Value) (u_M_size : Value) (u_M_sign : Value) (u_M_manyAbove : Value) (u_M_manyBelow : Value) (u_M_above : Value) (u_M_below : Value) (u_M_refused : Value) (u_M_at : Value) (u_M_begin : Value) (u_M_kind : Value) (u_M_value : Value) (u_M_read : Value) (u_M_acts : Value) (u_M_act : Value) (u_M_waits : Value) (u_M_wait : Value) (u_M_held : Value) (u_M_place : Value) (u_M_heap : Value) (u_M_clocks : Value) (u_M_counts : Value) (u_M_talking : Value) (u_M_most : Value) (u_M_hasA : Value) (u_M_hasB : Value) (u_M_talks : Value) (u_M_big : Value) (a_M_now : Nat → Int32) : va_W := [(q_M, .inr (11, [.ref q_M_now, u_M_images, u_M_kept, u_M_text, u_M_size, u_M_sign, u_M_manyAbove, u_M_manyBelow, u_M_above, u_M_below, u_M_refused, u_M_at, u_M_begin, u_M_kind, u_M_value, u_M_read, u_M_acts, u_M_act, u_M_waits, u_M_wait, u_M_held, u_M_place, u_M_heap, u_M_clocks, u_M_counts, u_M_talking, u_M_most, u_M_hasA, u_M_hasB, u_M_talks, u_M_big])), (q_M_now, .inl (cI, 155, .inl a_M_now))]
abbrev rm_X11_erase : Room := { frames := 0, cells := 0, slots := 0, locals := 0 }
def g_X11_erase (a_M_now : Nat → Int32) : Option (Int32 × (Nat → Int32)) :=
  some (a_M_now 7, upd a_M_now 7 0)
theorem hd_X11_erase : yX11_erase.cls = RX11 ∧ yX11_erase.cls ≠ "java/lang/invoke/MethodHandle" ∧ yX11_erase.cls ≠ "java/lang/invoke/VarHandle" ∧ (parseMethodDescriptor yX11_erase.desc).map (fun d => d.parameters.length) = some 0 := by decide +kernel
set_option maxHeartbeats 4000000 in
set_option maxRecDepth 100000 in
theorem c_X11_erase (l : Launch) (D : va_G) (cI cJ cZ cA : ClassId) (ga : Nat → Nat) (q_M q_M_now : Nat) (u_M_images : Value) (u_M_kept : Value) (u_M_text : Value) (u_M_size : Value) (u_M_sign : Value) (u_M_manyAbove : Value) (u_M_manyBelow : Value) (u_M_above : Value) (u_M_below : Value) (u_M_refused : Value) (u_M_at : Value) (u_M_begin : Value) (u_M_kind : Value) (u_M_value : Value) (u_M_read : Value) (u_M_acts : Value) (u_M_act : Value) (u_M_waits : Value) (u_M_wait : Value) (u_M_held : Value) (u_M_place : Value) (u_M_heap : Value) (u_M_clocks : Value) (u_M_counts : Value) (u_M_talking : Value) (u_M_most : Value) (u_M_hasA : Value) (u_M_hasB : Value) (u_M_talks : Value) (u_M_big : Value) (a_M_now : Nat → Int32) (o : Int32 × (Nat → Int32)) (hg : g_X11_erase a_M_now = some o) : zM l yX11_erase (Cond.code yX11_erase cX11_erase 2 (some .int) :: wsL_law) rm_X11_erase D (zTy cI cJ cZ cA) ga [.ref q_M] (ws_X11_erase cI cJ cZ cA q_M q_M_now u_M_images u_M_kept u_M_text u_M_size u_M_sign u_M_manyAbove u_M_manyBelow u_M_above u_M_below u_M_refused u_M_at u_M_begin u_M_kind u_M_value u_M_read u_M_acts u_M_act u_M_waits u_M_wait u_M_held u_M_place u_M_heap u_M_clocks u_M_counts u_M_talking u_M_most u_M_hasA u_M_hasB u_M_talks u_M_big a_M_now) (ws_X11_erase cI cJ cZ cA q_M q_M_now u_M_images u_M_kept u_M_text u_M_size u_M_sign u_M_manyAbove u_M_manyBelow u_M_above u_M_below u_M_refused u_M_at u_M_begin u_M_kind u_M_value u_M_read u_M_acts u_M_act u_M_waits u_M_wait u_M_held u_M_place u_M_heap u_M_clocks u_M_counts u_M_talking u_M_most u_M_hasA u_M_hasB u_M_talks u_M_big o.2) (some (.int o.1)) := by
  refine zenterI (own := RX11) (by decide) rfl rfl (Nat.le_of_ble_eq_true rfl) ?_
  intro p e s m args below meth c A ls Q S hA hK hG hl hP hD hS hret0
  have hx := S.1
  have hb := S.2.1
  have ht : ∀ w, w ∈ wsL_law → w.before args s = true := fun w h => S.2.2.2.2 w (List.mem_cons_of_mem _ h)
  have hret : ∀ (r9 : Int32) (a_M_now : Nat → Int32), (some (r9, a_M_now) : Option (Int32 × (Nat → Int32))) = some o → ∀ (H : Heap) (locs : List Loc) (pc : Nat) (ls : Array Slot), va_P D vwCl (ws_X11_erase cI cJ cZ cA q_M q_M_now u_M_images u_M_kept u_M_text u_M_size u_M_sign u_M_manyAbove u_M_manyBelow u_M_above u_M_below u_M_refused u_M_at u_M_begin u_M_kind u_M_value u_M_read u_M_acts u_M_act u_M_waits u_M_wait u_M_held u_M_place u_M_heap u_M_clocks u_M_counts u_M_talking u_M_most u_M_hasA u_M_hasB u_M_talks u_M_big a_M_now) H → va_S A s.heap H locs → decode cX11_erase pc = .ok (.ireturn, 1) → W p l e rm_X11_erase s m args below meth c H locs 0 0 Q (F0 m pc ls [.int r9]) := by
    intro r9 a_M_now he; cases he; exact hret0
  have hl : lv_has ls 2 [(0, .ref q_M)] := hl
  refine lv_aload_n hx hb dX11_erase_0 rfl (lv_at hl 0 rfl) ?_
  refine zget (C := RX11) (T := TX11) (N := 31) S hK hP 0 rfl rfl 0 (Nat.le_of_ble_eq_true rfl) zf_11 zw_149 rfl dX11_erase_1 ?_
  refine lv_bipush (v := 7) hx hb dX11_erase_4 (by decide) ?_
  refine ziald hx hb hK hP 1 0 rfl rfl (j := 7) (zin (by decide)) (by decide) dX11_erase_6 ?_
  refine lv_istore_n (lv' := [(1, .int (a_M_now 7)), (0, .ref q_M)]) hx hb dX11_erase_7 rfl hl (by decide) rfl (fun ls hl => ?_)
  refine lv_aload_n hx hb dX11_erase_8 rfl (lv_at hl 1 rfl) ?_
  refine zget (C := RX11) (T := TX11) (N := 31) S hK hP 0 rfl rfl 0 (Nat.le_of_ble_eq_true rfl) zf_11 zw_149 rfl dX11_erase_9 ?_
  refine lv_bipush (v := 7) hx hb dX11_erase_12 (by decide) ?_
  refine lv_iconst (v := 0) hx hb dX11_erase_14 (by decide) ?_
  refine ziast hx hb hK hP hD hS 1 0 rfl rfl (j := 7) (zin (by decide)) (by decide) dX11_erase_15 (w2 := (ws_X11_erase cI cJ cZ cA q_M q_M_now u_M_images u_M_kept u_M_text u_M_size u_M_sign u_M_manyAbove u_M_manyBelow u_M_above u_M_below u_M_refused u_M_at u_M_begin u_M_kind u_M_value u_M_read u_M_acts u_M_act u_M_waits u_M_wait u_M_held u_M_place u_M_heap u_M_clocks u_M_counts u_M_talking u_M_most u_M_hasA u_M_hasB u_M_talks u_M_big (upd a_M_now 7 0))) rfl (fun H locs hP hD hS => ?_)
  refine lv_iload_n hx hb dX11_erase_16 rfl (lv_at hl 0 rfl) ?_
  exact hret (a_M_now 7) (upd a_M_now 7 0) hg _ _ _ _ hP hS dX11_erase_17

/-! SpokenClockModel.holds(I)I -/
abbrev ws_X11_holds (cI cJ cZ cA : ClassId) : va_W := []
abbrev rm_X11_holds : Room := { frames := 0, cells := 0, slots := 0, locals := 0 }
def g_X11_holds_48 (x0 : Int32) : Option (Int32) :=
  some (3)
def g_X11_holds_64 (x0 : Int32) : Option (Int32) :=
  some (4)
def g_X11_holds_80 (x0 : Int32) : Option (Int32) :=
  some (5)
def g_X11_holds (x0 : Int32) : Option (Int32) :=
  if x0 = 40 then (
    some (0)
  ) else (
    if x0 = 124 then (
      some (1)
    ) else (
      if x0 = 38 then (
        some (2)
      ) else (
        if x0 = 60 then (
          g_X11_holds_48 x0
        ) else (
          if x0 = 62 then (
            g_X11_holds_48 x0
          ) else (
            if x0 = 61 then (
              g_X11_holds_48 x0
            ) else (
              if x0 = 43 then (
                g_X11_holds_64 x0
              ) else (
                if x0 = 45 then (
                  g_X11_holds_64 x0
                ) else (
                  if x0 = 42 then (
                    g_X11_holds_80 x0
                  ) else (
                    if x0 = 47 then (
                      g_X11_holds_80 x0
                    ) else (
                      some (6)
                    )
                  )
                )
              )
            )
          )
        )
      )
    )
  )
theorem hd_X11_holds : yX11_holds.cls ≠ "java/lang/invoke/MethodHandle" ∧ yX11_holds.cls ≠ "java/lang/invoke/VarHandle" ∧ (parseMethodDescriptor yX11_holds.desc).map (fun d => d.parameters.length) = some 1 := by decide +kernel
set_option maxHeartbeats 4000000 in
set_option maxRecDepth 100000 in
theorem c_X11_holds (l : Launch) (D : va_G) (cI cJ cZ cA : ClassId) (ga : Nat → Nat) (x0 : Int32) (o : Int32) (hg : g_X11_holds x0 = some o) : zM l yX11_holds (Cond.code yX11_holds cX11_holds 1 (some .int) :: wsL_law) rm_X11_holds D (zTy cI cJ cZ cA) ga [.int x0] (ws_X11_holds cI cJ cZ cA) (ws_X11_holds cI cJ cZ cA) (some (.int o)) := by
  refine zenterI (own := RX11) (by decide) rfl rfl (Nat.le_of_ble_eq_true rfl) ?_
  intro p e s m args below meth c A ls Q S hA hK hG hl hP hD hS hret0
  have hx := S.1
  have hb := S.2.1
  have ht : ∀ w, w ∈ wsL_law → w.before args s = true := fun w h => S.2.2.2.2 w (List.mem_cons_of_mem _ h)
  have hret : ∀ (r9 : Int32), (some (r9) : Option (Int32)) = some o → ∀ (H : Heap) (locs : List Loc) (pc : Nat) (ls : Array Slot), va_P D vwCl (ws_X11_holds cI cJ cZ cA) H → va_S A s.heap H locs → decode cX11_holds pc = .ok (.ireturn, 1) → W p l e rm_X11_holds s m args below meth c H locs 0 0 Q (F0 m pc ls [.int r9]) := by
    intro r9 he; cases he; exact hret0
  have hl : lv_has ls 1 [(0, .int x0)] := hl
  have B48 : ∀  (H : Heap) (locs : List Loc) (ls : Array Slot) (hl : lv_has ls 1 []) (hP : va_P D vwCl (ws_X11_holds cI cJ cZ cA) H) (hD : va_D A (ws_X11_holds cI cJ cZ cA)) (hS : va_S A s.heap H locs), g_X11_holds_48 x0 = some o → W p l e rm_X11_holds s m args below meth c H locs 0 0 Q (F0 m 48 ls []) := by
    intro   H locs ls hl hP hD hS hg
    refine lv_iconst (v := 3) hx hb dX11_holds_48 (by decide) ?_
    refine lv_goto (tgt := 86) hx hb dX11_holds_49 (by decide) ?_
    exact hret 3 hg _ _ _ _ hP hS dX11_holds_86
  have B64 : ∀  (H : Heap) (locs : List Loc) (ls : Array Slot) (hl : lv_has ls 1 []) (hP : va_P D vwCl (ws_X11_holds cI cJ cZ cA) H) (hD : va_D A (ws_X11_holds cI cJ cZ cA)) (hS : va_S A s.heap H locs), g_X11_holds_64 x0 = some o → W p l e rm_X11_holds s m args below meth c H locs 0 0 Q (F0 m 64 ls []) := by
    intro   H locs ls hl hP hD hS hg
    refine lv_iconst (v := 4) hx hb dX11_holds_64 (by decide) ?_
    refine lv_goto (tgt := 86) hx hb dX11_holds_65 (by decide) ?_
    exact hret 4 hg _ _ _ _ hP hS dX11_holds_86
  have B80 : ∀  (H : Heap) (locs : List Loc) (ls : Array Slot) (hl : lv_has ls 1 []) (hP : va_P D vwCl (ws_X11_holds cI cJ cZ cA) H) (hD : va_D A (ws_X11_holds cI cJ cZ cA)) (hS : va_S A s.heap H locs), g_X11_holds_80 x0 = some o → W p l e rm_X11_holds s m args below meth c H locs 0 0 Q (F0 m 80 ls []) := by
    intro   H locs ls hl hP hD hS hg
    refine lv_iconst (v := 5) hx hb dX11_holds_80 (by decide) ?_
    refine lv_goto (tgt := 86) hx hb dX11_holds_81 (by decide) ?_
    exact hret 5 hg _ _ _ _ hP hS dX11_holds_86
  refine lv_iload_n hx hb dX11_holds_0 rfl (lv_at hl 0 rfl) ?_
  refine lv_bipush (v := 40) hx hb dX11_holds_1 (by decide) ?_
  refine lv_icmp_ne (tgt := 10) hx hb dX11_holds_3 (by decide) (fun h3 => ?_) (fun h3 => ?_)
  · have hg := zn hg h3
    refine lv_iload_n hx hb dX11_holds_10 rfl (lv_at hl 0 rfl) ?_
    refine lv_bipush (v := 124) hx hb dX11_holds_11 (by decide) ?_
    refine lv_icmp_ne (tgt := 20) hx hb dX11_holds_13 (by decide) (fun h13 => ?_) (fun h13 => ?_)
    · have hg := zn hg h13
      refine lv_iload_n hx hb dX11_holds_20 rfl (lv_at hl 0 rfl) ?_
      refine lv_bipush (v := 38) hx hb dX11_holds_21 (by decide) ?_
      refine lv_icmp_ne (tgt := 30) hx hb dX11_holds_23 (by decide) (fun h23 => ?_) (fun h23 => ?_)
      · have hg := zn hg h23
        refine lv_iload_n hx hb dX11_holds_30 rfl (lv_at hl 0 rfl) ?_
        refine lv_bipush (v := 60) hx hb dX11_holds_31 (by decide) ?_
        refine lv_icmp_eq (tgt := 48) hx hb dX11_holds_33 (by decide) (fun h33 => ?_) (fun h33 => ?_)
        · have hg := zp hg h33
          exact B48  _ _ _ (lv_sub hl [] rfl) hP hD hS hg
        · have hg := zn hg h33
          refine lv_iload_n hx hb dX11_holds_36 rfl (lv_at hl 0 rfl) ?_
          refine lv_bipush (v := 62) hx hb dX11_holds_37 (by decide) ?_
          refine lv_icmp_eq (tgt := 48) hx hb dX11_holds_39 (by decide) (fun h39 => ?_) (fun h39 => ?_)
          · have hg := zp hg h39
            exact B48  _ _ _ (lv_sub hl [] rfl) hP hD hS hg
          · have hg := zn hg h39
            refine lv_iload_n hx hb dX11_holds_42 rfl (lv_at hl 0 rfl) ?_
            refine lv_bipush (v := 61) hx hb dX11_holds_43 (by decide) ?_
            refine lv_icmp_ne (tgt := 52) hx hb dX11_holds_45 (by decide) (fun h45 => ?_) (fun h45 => ?_)
            · have hg := zn hg h45
              refine lv_iload_n hx hb dX11_holds_52 rfl (lv_at hl 0 rfl) ?_
              refine lv_bipush (v := 43) hx hb dX11_holds_53 (by decide) ?_
              refine lv_icmp_eq (tgt := 64) hx hb dX11_holds_55 (by decide) (fun h55 => ?_) (fun h55 => ?_)
              · have hg := zp hg h55
                exact B64  _ _ _ (lv_sub hl [] rfl) hP hD hS hg
              · have hg := zn hg h55
                refine lv_iload_n hx hb dX11_holds_58 rfl (lv_at hl 0 rfl) ?_
                refine lv_bipush (v := 45) hx hb dX11_holds_59 (by decide) ?_
                refine lv_icmp_ne (tgt := 68) hx hb dX11_holds_61 (by decide) (fun h61 => ?_) (fun h61 => ?_)
                · have hg := zn hg h61
                  refine lv_iload_n hx hb dX11_holds_68 rfl (lv_at hl 0 rfl) ?_
                  refine lv_bipush (v := 42) hx hb dX11_holds_69 (by decide) ?_
                  refine lv_icmp_eq (tgt := 80) hx hb dX11_holds_71 (by decide) (fun h71 => ?_) (fun h71 => ?_)
                  · have hg := zp hg h71
                    exact B80  _ _ _ (lv_sub hl [] rfl) hP hD hS hg
                  · have hg := zn hg h71
                    refine lv_iload_n hx hb dX11_holds_74 rfl (lv_at hl 0 rfl) ?_
                    refine lv_bipush (v := 47) hx hb dX11_holds_75 (by decide) ?_
                    refine lv_icmp_ne (tgt := 84) hx hb dX11_holds_77 (by decide) (fun h77 => ?_) (fun h77 => ?_)
                    · have hg := zn hg h77
                      refine lv_bipush (v := 6) hx hb dX11_holds_84 (by decide) ?_
                      exact hret 6 hg _ _ _ _ hP hS dX11_holds_86
                    · have hg := zp hg h77
                      exact B80  _ _ _ (lv_sub hl [] rfl) hP hD hS hg
                · have hg := zp hg h61
                  exact B64  _ _ _ (lv_sub hl [] rfl) hP hD hS hg
            · have hg := zp hg h45
              exact B48  _ _ _ (lv_sub hl [] rfl) hP hD hS hg
      · have hg := zp hg h23
        refine lv_iconst (v := 2) hx hb dX11_holds_26 (by decide) ?_
        refine lv_goto (tgt := 86) hx hb dX11_holds_27 (by decide) ?_
        exact hret 2 hg _ _ _ _ hP hS dX11_holds_86
    · have hg := zp hg h13
      refine lv_iconst (v := 1) hx hb dX11_holds_16 (by decide) ?_
      refine lv_goto (tgt := 86) hx hb dX11_holds_17 (by decide) ?_
      exact hret 1 hg _ _ _ _ hP hS dX11_holds_86
  · have hg := zp hg h3
    refine lv_iconst (v := 0) hx hb dX11_holds_6 (by decide) ?_
    refine lv_goto (tgt := 86) hx hb dX11_holds_7 (by decide) ?_
    exact hret 0 hg _ _ _ _ hP hS dX11_holds_86

/-! SpokenClockModel.does(I)V -/
abbrev ws_X11_does (cI cJ cZ cA : ClassId) (q_M q_M_wait q_M_act : Nat) (u_M_now : Value) (u_M_images : Value) (u_M_kept : Value) (u_M_text : Value) (u_M_size : Value) (u_M_sign : Value) (u_M_manyAbove : Value) (u_M_manyBelow : Value) (u_M_above : Value) (u_M_below : Value) (u_M_refused : Value) (u_M_at : Value) (u_M_begin : Value) (u_M_kind : Value) (u_M_value : Value) (u_M_read : Value) (u_M_held : Value) (u_M_place : Value) (u_M_heap : Value) (u_M_clocks : Value) (u_M_counts : Value) (u_M_talking : Value) (u_M_most : Value) (u_M_hasA : Value) (u_M_hasB : Value) (u_M_talks : Value) (u_M_big : Value) (v_M_acts : Int32) (v_M_waits : Int32) (a_M_wait : Nat → Int32) (a_M_act : Nat → Int32) : va_W := [(q_M, .inr (11, [u_M_now, u_M_images, u_M_kept, u_M_text, u_M_size, u_M_sign, u_M_manyAbove, u_M_manyBelow, u_M_above, u_M_below, u_M_refused, u_M_at, u_M_begin, u_M_kind, u_M_value, u_M_read, .int v_M_acts, .ref q_M_act, .int v_M_waits, .ref q_M_wait, u_M_held, u_M_place, u_M_heap, u_M_clocks, u_M_counts, u_M_talking, u_M_most, u_M_hasA, u_M_hasB, u_M_talks, u_M_big])), (q_M_wait, .inl (cI, 80, .inl a_M_wait)), (q_M_act, .inl (cI, 80, .inl a_M_act))]
abbrev rm_X11_does : Room := { frames := 1, cells := 0, slots := 0, locals := 20 }
def g_X11_does_0b (a_M_wait : Nat → Int32) (x1 : Int32) (k0 : Int32 → Int32 → (Nat → Int32) → Option (Int32 × Int32 × (Nat → Int32))) (v_M_acts : Int32) (v_M_waits : Int32) (a_M_act : Nat → Int32) : Option (Int32 × Int32 × (Nat → Int32)) :=
  if v_M_waits ≤ 0 then (
    some (v_M_acts, v_M_waits, a_M_act)
  ) else (
    if (v_M_waits - 1) < 0 ∨ 80 ≤ (v_M_waits - 1).toNatClampNeg then none else
    (g_X11_holds (a_M_wait ((v_M_waits - 1).toNatClampNeg))).bind fun v2 =>
    if v2 < x1 then (
      some (v_M_acts, v_M_waits, a_M_act)
    ) else (
      if (v_M_waits - 1) < 0 ∨ 80 ≤ (v_M_waits - 1).toNatClampNeg then none else
      if v_M_acts < 0 ∨ 80 ≤ v_M_acts.toNatClampNeg then none else
      k0 (v_M_acts + 1) (v_M_waits - 1) (upd a_M_act (v_M_acts.toNatClampNeg) (-(a_M_wait ((v_M_waits - 1).toNatClampNeg))))
    )
  )
def g_X11_does_0 (a_M_wait : Nat → Int32) (x1 : Int32) : Nat → Int32 → Int32 → (Nat → Int32) → Option (Int32 × Int32 × (Nat → Int32))
  | 0, _, _, _ => none
  | n + 1, v_M_acts, v_M_waits, a_M_act => g_X11_does_0b a_M_wait x1 (g_X11_does_0 a_M_wait x1 n) v_M_acts v_M_waits a_M_act
def g_X11_does (a_M_wait : Nat → Int32) (x1 : Int32) (v_M_acts : Int32) (v_M_waits : Int32) (a_M_act : Nat → Int32) : Option (Int32 × Int32 × (Nat → Int32)) :=
  g_X11_does_0 a_M_wait x1 zF v_M_acts v_M_waits a_M_act
theorem hd_X11_does : yX11_does.cls = RX11 ∧ yX11_does.cls ≠ "java/lang/invoke/MethodHandle" ∧ yX11_does.cls ≠ "java/lang/invoke/VarHandle" ∧ (parseMethodDescriptor yX11_does.desc).map (fun d => d.parameters.length) = some 1 := by decide +kernel
set_option maxHeartbeats 4000000 in
set_option maxRecDepth 100000 in
theorem c_X11_does (l : Launch) (D : va_G) (cI cJ cZ cA : ClassId) (ga : Nat → Nat) (q_M q_M_wait q_M_act : Nat) (u_M_now : Value) (u_M_images : Value) (u_M_kept : Value) (u_M_text : Value) (u_M_size : Value) (u_M_sign : Value) (u_M_manyAbove : Value) (u_M_manyBelow : Value) (u_M_above : Value) (u_M_below : Value) (u_M_refused : Value) (u_M_at : Value) (u_M_begin : Value) (u_M_kind : Value) (u_M_value : Value) (u_M_read : Value) (u_M_held : Value) (u_M_place : Value) (u_M_heap : Value) (u_M_clocks : Value) (u_M_counts : Value) (u_M_talking : Value) (u_M_most : Value) (u_M_hasA : Value) (u_M_hasB : Value) (u_M_talks : Value) (u_M_big : Value) (v_M_acts : Int32) (v_M_waits : Int32) (a_M_wait : Nat → Int32) (a_M_act : Nat → Int32) (x1 : Int32) (o : Int32 × Int32 × (Nat → Int32)) (hg : g_X11_does a_M_wait x1 v_M_acts v_M_waits a_M_act = some o) : zM l yX11_does (Cond.code yX11_does cX11_does 2 none :: wsL_law) rm_X11_does D (zTy cI cJ cZ cA) ga [.ref q_M, .int x1] (ws_X11_does cI cJ cZ cA q_M q_M_wait q_M_act u_M_now u_M_images u_M_kept u_M_text u_M_size u_M_sign u_M_manyAbove u_M_manyBelow u_M_above u_M_below u_M_refused u_M_at u_M_begin u_M_kind u_M_value u_M_read u_M_held u_M_place u_M_heap u_M_clocks u_M_counts u_M_talking u_M_most u_M_hasA u_M_hasB u_M_talks u_M_big v_M_acts v_M_waits a_M_wait a_M_act) (ws_X11_does cI cJ cZ cA q_M q_M_wait q_M_act u_M_now u_M_images u_M_kept u_M_text u_M_size u_M_sign u_M_manyAbove u_M_manyBelow u_M_above u_M_below u_M_refused u_M_at u_M_begin u_M_kind u_M_value u_M_read u_M_held u_M_place u_M_heap u_M_clocks u_M_counts u_M_talking u_M_most u_M_hasA u_M_hasB u_M_talks u_M_big o.1 o.2.1 a_M_wait o.2.2) none := by
  refine zenterV (own := RX11) (by decide) rfl rfl (Nat.le_of_ble_eq_true rfl) ?_
  intro p e s m args below meth c A ls Q S hA hK hG hl hP hD hS hret0
  have hx := S.1
  have hb := S.2.1
  have ht : ∀ w, w ∈ wsL_law → w.before args s = true := fun w h => S.2.2.2.2 w (List.mem_cons_of_mem _ h)
  have hret : ∀ (v_M_acts : Int32) (v_M_waits : Int32) (a_M_act : Nat → Int32), (some (v_M_acts, v_M_waits, a_M_act) : Option (Int32 × Int32 × (Nat → Int32))) = some o → ∀ (H : Heap) (locs : List Loc) (pc : Nat) (ls : Array Slot), va_P D vwCl (ws_X11_does cI cJ cZ cA q_M q_M_wait q_M_act u_M_now u_M_images u_M_kept u_M_text u_M_size u_M_sign u_M_manyAbove u_M_manyBelow u_M_above u_M_below u_M_refused u_M_at u_M_begin u_M_kind u_M_value u_M_read u_M_held u_M_place u_M_heap u_M_clocks u_M_counts u_M_talking u_M_most u_M_hasA u_M_hasB u_M_talks u_M_big v_M_acts v_M_waits a_M_wait a_M_act) H → va_S A s.heap H locs → decode cX11_does pc = .ok (.return_, 1) → W p l e rm_X11_does s m args below meth c H locs 0 0 Q (F0 m pc ls []) := by
    intro v_M_acts v_M_waits a_M_act he; cases he; exact hret0
  have hl : lv_has ls 2 [(0, .ref q_M), (1, .int x1)] := hl
  have B0 : ∀  (n : Nat) (v_M_acts : Int32) (v_M_waits : Int32) (a_M_act : Nat → Int32) (H : Heap) (locs : List Loc) (ls : Array Slot) (hl : lv_has ls 2 [(0, .ref q_M), (1, .int x1)]) (hP : va_P D vwCl (ws_X11_does cI cJ cZ cA q_M q_M_wait q_M_act u_M_now u_M_images u_M_kept u_M_text u_M_size u_M_sign u_M_manyAbove u_M_manyBelow u_M_above u_M_below u_M_refused u_M_at u_M_begin u_M_kind u_M_value u_M_read u_M_held u_M_place u_M_heap u_M_clocks u_M_counts u_M_talking u_M_most u_M_hasA u_M_hasB u_M_talks u_M_big v_M_acts v_M_waits a_M_wait a_M_act) H) (hD : va_D A (ws_X11_does cI cJ cZ cA q_M q_M_wait q_M_act u_M_now u_M_images u_M_kept u_M_text u_M_size u_M_sign u_M_manyAbove u_M_manyBelow u_M_above u_M_below u_M_refused u_M_at u_M_begin u_M_kind u_M_value u_M_read u_M_held u_M_place u_M_heap u_M_clocks u_M_counts u_M_talking u_M_most u_M_hasA u_M_hasB u_M_talks u_M_big v_M_acts v_M_waits a_M_wait a_M_act)) (hS : va_S A s.heap H locs), g_X11_does_0 a_M_wait x1 n v_M_acts v_M_waits a_M_act = some o → W p l e rm_X11_does s m args below meth c H locs 0 0 Q (F0 m 0 ls []) := by
    intro  n
    induction n with
    | zero => intro v_M_acts v_M_waits a_M_act H locs ls hl hP hD hS hg; exact nomatch (show (none : Option (Int32 × Int32 × (Nat → Int32))) = some o from hg)
    | succ n ih =>
      intro v_M_acts v_M_waits a_M_act H locs ls hl hP hD hS hg
      have hg : g_X11_does_0b a_M_wait x1 (g_X11_does_0 a_M_wait x1 n) v_M_acts v_M_waits a_M_act = some o := hg
      refine lv_aload_n hx hb dX11_does_0 rfl (lv_at hl 0 rfl) ?_
      refine zget (C := RX11) (T := TX11) (N := 31) S hK hP 0 rfl rfl 18 (Nat.le_of_ble_eq_true rfl) zf_11 zw_596 rfl dX11_does_1 ?_
      refine lv_if_le (tgt := 67) hx hb dX11_does_4 (by decide) (fun h4 => ?_) (fun h4 => ?_)
      · have hg := zp hg h4
        exact hret v_M_acts v_M_waits a_M_act hg _ _ _ _ hP hS dX11_does_67
      · have hg := zn hg h4
        refine lv_aload_n hx hb dX11_does_7 rfl (lv_at hl 0 rfl) ?_
        refine zget (C := RX11) (T := TX11) (N := 31) S hK hP 0 rfl rfl 19 (Nat.le_of_ble_eq_true rfl) zf_11 zw_159 rfl dX11_does_8 ?_
        refine lv_aload_n hx hb dX11_does_11 rfl (lv_at hl 0 rfl) ?_
        refine zget (C := RX11) (T := TX11) (N := 31) S hK hP 0 rfl rfl 18 (Nat.le_of_ble_eq_true rfl) zf_11 zw_596 rfl dX11_does_12 ?_
        refine lv_iconst (v := 1) hx hb dX11_does_15 (by decide) ?_
        refine lv_isub hx hb dX11_does_16 ?_
        obtain ⟨h1, hg⟩ := zck hg
        refine ziald hx hb hK hP 1 0 rfl rfl (j := ((v_M_waits - 1).toNatClampNeg)) h1 rfl dX11_does_17 ?_
        obtain ⟨v2, hc3, hg⟩ := zbd hg
        refine zcallS (rest := []) S (c_X11_holds l D cI cJ cZ cA ga (a_M_wait ((v_M_waits - 1).toNatClampNeg)) v2 hc3) (zgS zw_613 zw_614 zw_5 zw_615) rfl hd_X11_holds ⟨rfl, rfl⟩ ⟨Nat.le_of_ble_eq_true rfl, Nat.le_of_ble_eq_true rfl⟩ rfl hl.1 rfl (Nat.le_of_ble_eq_true rfl) dX11_does_18 hP hD hS hA hK hG (isC := []) rfl rfl rfl (w2 := (ws_X11_does cI cJ cZ cA q_M q_M_wait q_M_act u_M_now u_M_images u_M_kept u_M_text u_M_size u_M_sign u_M_manyAbove u_M_manyBelow u_M_above u_M_below u_M_refused u_M_at u_M_begin u_M_kind u_M_value u_M_read u_M_held u_M_place u_M_heap u_M_clocks u_M_counts u_M_talking u_M_most u_M_hasA u_M_hasB u_M_talks u_M_big v_M_acts v_M_waits a_M_wait a_M_act)) rfl (st1 := [.int v2]) rfl (fun H locs hP hD hS => ?_)
        refine lv_iload_n hx hb dX11_does_21 rfl (lv_at hl 1 rfl) ?_
        refine lv_icmp_lt (tgt := 67) hx hb dX11_does_22 (by decide) (fun h22 => ?_) (fun h22 => ?_)
        · have hg := zp hg h22
          exact hret v_M_acts v_M_waits a_M_act hg _ _ _ _ hP hS dX11_does_67
        · have hg := zn hg h22
          refine lv_aload_n hx hb dX11_does_25 rfl (lv_at hl 0 rfl) ?_
          refine lv_dup hx hb dX11_does_26 rfl ?_
          refine zget (C := RX11) (T := TX11) (N := 31) S hK hP 0 rfl rfl 18 (Nat.le_of_ble_eq_true rfl) zf_11 zw_596 rfl dX11_does_27 ?_
          refine lv_iconst (v := 1) hx hb dX11_does_30 (by decide) ?_
          refine lv_isub hx hb dX11_does_31 ?_
          refine zputf (C := RX11) (T := TX11) (N := 31) (ty := .int) S hK hP hD hS 0 rfl rfl 18 (Nat.le_of_ble_eq_true rfl) zf_11 tyX11 tyX11_ok nmX11 zw_596 rfl (by decide +kernel) rfl rfl (Nat.le_of_ble_eq_true rfl) dX11_does_32 (w2 := (ws_X11_does cI cJ cZ cA q_M q_M_wait q_M_act u_M_now u_M_images u_M_kept u_M_text u_M_size u_M_sign u_M_manyAbove u_M_manyBelow u_M_above u_M_below u_M_refused u_M_at u_M_begin u_M_kind u_M_value u_M_read u_M_held u_M_place u_M_heap u_M_clocks u_M_counts u_M_talking u_M_most u_M_hasA u_M_hasB u_M_talks u_M_big v_M_acts (v_M_waits - 1) a_M_wait a_M_act)) rfl (fun H locs hP hD hS => ?_)
          refine lv_aload_n hx hb dX11_does_35 rfl (lv_at hl 0 rfl) ?_
          refine zget (C := RX11) (T := TX11) (N := 31) S hK hP 0 rfl rfl 17 (Nat.le_of_ble_eq_true rfl) zf_11 zw_158 rfl dX11_does_36 ?_
          refine lv_aload_n hx hb dX11_does_39 rfl (lv_at hl 0 rfl) ?_
          refine zget (C := RX11) (T := TX11) (N := 31) S hK hP 0 rfl rfl 16 (Nat.le_of_ble_eq_true rfl) zf_11 zw_595 rfl dX11_does_40 ?_
          refine lv_aload_n hx hb dX11_does_43 rfl (lv_at hl 0 rfl) ?_
          refine zget (C := RX11) (T := TX11) (N := 31) S hK hP 0 rfl rfl 19 (Nat.le_of_ble_eq_true rfl) zf_11 zw_159 rfl dX11_does_44 ?_
          refine lv_aload_n hx hb dX11_does_47 rfl (lv_at hl 0 rfl) ?_
          refine zget (C := RX11) (T := TX11) (N := 31) S hK hP 0 rfl rfl 18 (Nat.le_of_ble_eq_true rfl) zf_11 zw_596 rfl dX11_does_48 ?_
          obtain ⟨h4, hg⟩ := zck hg
          refine ziald hx hb hK hP 1 0 rfl rfl (j := ((v_M_waits - 1).toNatClampNeg)) h4 rfl dX11_does_51 ?_
          refine lv_ineg hx hb dX11_does_52 ?_
          obtain ⟨h5, hg⟩ := zck hg
          refine ziast hx hb hK hP hD hS 2 0 rfl rfl (j := (v_M_acts.toNatClampNeg)) h5 rfl dX11_does_53 (w2 := (ws_X11_does cI cJ cZ cA q_M q_M_wait q_M_act u_M_now u_M_images u_M_kept u_M_text u_M_size u_M_sign u_M_manyAbove u_M_manyBelow u_M_above u_M_below u_M_refused u_M_at u_M_begin u_M_kind u_M_value u_M_read u_M_held u_M_place u_M_heap u_M_clocks u_M_counts u_M_talking u_M_most u_M_hasA u_M_hasB u_M_talks u_M_big v_M_acts (v_M_waits - 1) a_M_wait (upd a_M_act (v_M_acts.toNatClampNeg) (-(a_M_wait ((v_M_waits - 1).toNatClampNeg)))))) rfl (fun H locs hP hD hS => ?_)
          refine lv_aload_n hx hb dX11_does_54 rfl (lv_at hl 0 rfl) ?_
          refine lv_dup hx hb dX11_does_55 rfl ?_
          refine zget (C := RX11) (T := TX11) (N := 31) S hK hP 0 rfl rfl 16 (Nat.le_of_ble_eq_true rfl) zf_11 zw_595 rfl dX11_does_56 ?_
          refine lv_iconst (v := 1) hx hb dX11_does_59 (by decide) ?_
          refine lv_iadd hx hb dX11_does_60 ?_
          refine zputf (C := RX11) (T := TX11) (N := 31) (ty := .int) S hK hP hD hS 0 rfl rfl 16 (Nat.le_of_ble_eq_true rfl) zf_11 tyX11 tyX11_ok nmX11 zw_595 rfl (by decide +kernel) rfl rfl (Nat.le_of_ble_eq_true rfl) dX11_does_61 (w2 := (ws_X11_does cI cJ cZ cA q_M q_M_wait q_M_act u_M_now u_M_images u_M_kept u_M_text u_M_size u_M_sign u_M_manyAbove u_M_manyBelow u_M_above u_M_below u_M_refused u_M_at u_M_begin u_M_kind u_M_value u_M_read u_M_held u_M_place u_M_heap u_M_clocks u_M_counts u_M_talking u_M_most u_M_hasA u_M_hasB u_M_talks u_M_big (v_M_acts + 1) (v_M_waits - 1) a_M_wait (upd a_M_act (v_M_acts.toNatClampNeg) (-(a_M_wait ((v_M_waits - 1).toNatClampNeg)))))) rfl (fun H locs hP hD hS => ?_)
          refine lv_goto (tgt := 0) hx hb dX11_does_64 (by decide) ?_
          exact ih (v_M_acts + 1) (v_M_waits - 1) (upd a_M_act (v_M_acts.toNatClampNeg) (-(a_M_wait ((v_M_waits - 1).toNatClampNeg)))) _ _ _ hl hP hD hS hg
  exact B0 zF v_M_acts v_M_waits a_M_act _ _ _ hl hP hD hS hg

/-! SpokenClockModel.isName(I)Z -/
abbrev ws_X11_isName (cI cJ cZ cA : ClassId) : va_W := []
abbrev rm_X11_isName : Room := { frames := 0, cells := 0, slots := 0, locals := 0 }
def g_X11_isName_36 (x0 : Int32) : Option (Int32) :=
  some (1)
def g_X11_isName (x0 : Int32) : Option (Int32) :=
  if x0 = 99 then (
    g_X11_isName_36 x0
  ) else (
    if x0 = 115 then (
      g_X11_isName_36 x0
    ) else (
      if x0 = 111 then (
        g_X11_isName_36 x0
      ) else (
        if x0 = 112 then (
          g_X11_isName_36 x0
        ) else (
          if x0 = 98 then (
            g_X11_isName_36 x0
          ) else (
            if x0 = 102 then (
              g_X11_isName_36 x0
            ) else (
              some (0)
            )
          )
        )
      )
    )
  )
theorem hd_X11_isName : yX11_isName.cls ≠ "java/lang/invoke/MethodHandle" ∧ yX11_isName.cls ≠ "java/lang/invoke/VarHandle" ∧ (parseMethodDescriptor yX11_isName.desc).map (fun d => d.parameters.length) = some 1 := by decide +kernel
set_option maxHeartbeats 4000000 in
set_option maxRecDepth 100000 in
theorem c_X11_isName (l : Launch) (D : va_G) (cI cJ cZ cA : ClassId) (ga : Nat → Nat) (x0 : Int32) (o : Int32) (hg : g_X11_isName x0 = some o) : zM l yX11_isName (Cond.code yX11_isName cX11_isName 1 (some .boolean) :: wsL_law) rm_X11_isName D (zTy cI cJ cZ cA) ga [.int x0] (ws_X11_isName cI cJ cZ cA) (ws_X11_isName cI cJ cZ cA) (some (.int o)) := by
  refine zenterN (own := RX11) (by decide) rfl rfl (Nat.le_of_ble_eq_true rfl) ?_
  intro p e s m args below meth c A ls Q S hA hK hG hl hP hD hS hret0
  have hx := S.1
  have hb := S.2.1
  have ht : ∀ w, w ∈ wsL_law → w.before args s = true := fun w h => S.2.2.2.2 w (List.mem_cons_of_mem _ h)
  have hret : ∀ (r9 : Int32), (some (r9) : Option (Int32)) = some o → narrow .boolean (.int r9) = .int r9 → ∀ (H : Heap) (locs : List Loc) (pc : Nat) (ls : Array Slot), va_P D vwCl (ws_X11_isName cI cJ cZ cA) H → va_S A s.heap H locs → decode cX11_isName pc = .ok (.ireturn, 1) → W p l e rm_X11_isName s m args below meth c H locs 0 0 Q (F0 m pc ls [.int r9]) := by
    intro r9 he; cases he; exact hret0
  have hl : lv_has ls 1 [(0, .int x0)] := hl
  have B36 : ∀  (H : Heap) (locs : List Loc) (ls : Array Slot) (hl : lv_has ls 1 []) (hP : va_P D vwCl (ws_X11_isName cI cJ cZ cA) H) (hD : va_D A (ws_X11_isName cI cJ cZ cA)) (hS : va_S A s.heap H locs), g_X11_isName_36 x0 = some o → W p l e rm_X11_isName s m args below meth c H locs 0 0 Q (F0 m 36 ls []) := by
    intro   H locs ls hl hP hD hS hg
    refine lv_iconst (v := 1) hx hb dX11_isName_36 (by decide) ?_
    refine lv_goto (tgt := 41) hx hb dX11_isName_37 (by decide) ?_
    exact hret 1 hg (zb01 (Or.inr rfl)) _ _ _ _ hP hS dX11_isName_41
  refine lv_iload_n hx hb dX11_isName_0 rfl (lv_at hl 0 rfl) ?_
  refine lv_bipush (v := 99) hx hb dX11_isName_1 (by decide) ?_
  refine lv_icmp_eq (tgt := 36) hx hb dX11_isName_3 (by decide) (fun h3 => ?_) (fun h3 => ?_)
  · have hg := zp hg h3
    exact B36  _ _ _ (lv_sub hl [] rfl) hP hD hS hg
  · have hg := zn hg h3
    refine lv_iload_n hx hb dX11_isName_6 rfl (lv_at hl 0 rfl) ?_
    refine lv_bipush (v := 115) hx hb dX11_isName_7 (by decide) ?_
    refine lv_icmp_eq (tgt := 36) hx hb dX11_isName_9 (by decide) (fun h9 => ?_) (fun h9 => ?_)
    · have hg := zp hg h9
      exact B36  _ _ _ (lv_sub hl [] rfl) hP hD hS hg
    · have hg := zn hg h9
      refine lv_iload_n hx hb dX11_isName_12 rfl (lv_at hl 0 rfl) ?_
      refine lv_bipush (v := 111) hx hb dX11_isName_13 (by decide) ?_
      refine lv_icmp_eq (tgt := 36) hx hb dX11_isName_15 (by decide) (fun h15 => ?_) (fun h15 => ?_)
      · have hg := zp hg h15
        exact B36  _ _ _ (lv_sub hl [] rfl) hP hD hS hg
      · have hg := zn hg h15
        refine lv_iload_n hx hb dX11_isName_18 rfl (lv_at hl 0 rfl) ?_
        refine lv_bipush (v := 112) hx hb dX11_isName_19 (by decide) ?_
        refine lv_icmp_eq (tgt := 36) hx hb dX11_isName_21 (by decide) (fun h21 => ?_) (fun h21 => ?_)
        · have hg := zp hg h21
          exact B36  _ _ _ (lv_sub hl [] rfl) hP hD hS hg
        · have hg := zn hg h21
          refine lv_iload_n hx hb dX11_isName_24 rfl (lv_at hl 0 rfl) ?_
          refine lv_bipush (v := 98) hx hb dX11_isName_25 (by decide) ?_
          refine lv_icmp_eq (tgt := 36) hx hb dX11_isName_27 (by decide) (fun h27 => ?_) (fun h27 => ?_)
          · have hg := zp hg h27
            exact B36  _ _ _ (lv_sub hl [] rfl) hP hD hS hg
          · have hg := zn hg h27
            refine lv_iload_n hx hb dX11_isName_30 rfl (lv_at hl 0 rfl) ?_
            refine lv_bipush (v := 102) hx hb dX11_isName_31 (by decide) ?_
            refine lv_icmp_ne (tgt := 40) hx hb dX11_isName_33 (by decide) (fun h33 => ?_) (fun h33 => ?_)
            · have hg := zn hg h33
              refine lv_iconst (v := 0) hx hb dX11_isName_40 (by decide) ?_
              exact hret 0 hg (zb01 (Or.inl rfl)) _ _ _ _ hP hS dX11_isName_41
            · have hg := zp hg h33
              exact B36  _ _ _ (lv_sub hl [] rfl) hP hD hS hg

/-! SpokenClockModel.here()I -/
abbrev ws_X11_here (cI cJ cZ cA : ClassId) (q_M q_M_now : Nat) (u_M_images : Value) (u_M_kept : Value) (u_M_text : Value) (u_M_size : Value) (u_M_sign : Value) (u_M_manyAbove : Value) (u_M_manyBelow : Value) (u_M_above : Value) (u_M_below : Value) (u_M_refused : Value) (u_M_at : Value) (u_M_begin : Value) (u_M_kind : Value) (u_M_value : Value) (u_M_read : Value) (u_M_acts : Value) (u_M_act : Value) (u_M_waits : Value) (u_M_wait : Value) (u_M_held : Value) (u_M_heap : Value) (u_M_clocks : Value) (u_M_counts : Value) (u_M_talking : Value) (u_M_most : Value) (u_M_hasA : Value) (u_M_hasB : Value) (u_M_talks : Value) (u_M_big : Value) (v_M_place : Int32) (a_M_now : Nat → Int32) : va_W := [(q_M, .inr (11, [.ref q_M_now, u_M_images, u_M_kept, u_M_text, u_M_size, u_M_sign, u_M_manyAbove, u_M_manyBelow, u_M_above, u_M_below, u_M_refused, u_M_at, u_M_begin, u_M_kind, u_M_value, u_M_read, u_M_acts, u_M_act, u_M_waits, u_M_wait, u_M_held, .int v_M_place, u_M_heap, u_M_clocks, u_M_counts, u_M_talking, u_M_most, u_M_hasA, u_M_hasB, u_M_talks, u_M_big])), (q_M_now, .inl (cI, 155, .inl a_M_now))]
abbrev rm_X11_here : Room := { frames := 0, cells := 0, slots := 0, locals := 0 }
def g_X11_here_44 (a_M_now : Nat → Int32) (v_M_place : Int32) : Option (Int32 × Int32) :=
  if (a_M_now 7) ≤ v_M_place then (
    some ((-1), v_M_place)
  ) else (
    if (115 + v_M_place) < 0 ∨ 155 ≤ (115 + v_M_place).toNatClampNeg then none else
    some (a_M_now ((115 + v_M_place).toNatClampNeg), v_M_place)
  )
def g_X11_here_0b (a_M_now : Nat → Int32) (k0 : Int32 → Option (Int32 × Int32)) (v_M_place : Int32) : Option (Int32 × Int32) :=
  if (a_M_now 7) ≤ v_M_place then (
    g_X11_here_44 a_M_now v_M_place
  ) else (
    if (115 + v_M_place) < 0 ∨ 155 ≤ (115 + v_M_place).toNatClampNeg then none else
    if (a_M_now ((115 + v_M_place).toNatClampNeg)) = 32 then (
      k0 (v_M_place + 1)
    ) else (
      g_X11_here_44 a_M_now v_M_place
    )
  )
def g_X11_here_0 (a_M_now : Nat → Int32) : Nat → Int32 → Option (Int32 × Int32)
  | 0, _ => none
  | n + 1, v_M_place => g_X11_here_0b a_M_now (g_X11_here_0 a_M_now n) v_M_place
def g_X11_here (a_M_now : Nat → Int32) (v_M_place : Int32) : Option (Int32 × Int32) :=
  g_X11_here_0 a_M_now zF v_M_place
theorem hd_X11_here : yX11_here.cls = RX11 ∧ yX11_here.cls ≠ "java/lang/invoke/MethodHandle" ∧ yX11_here.cls ≠ "java/lang/invoke/VarHandle" ∧ (parseMethodDescriptor yX11_here.desc).map (fun d => d.parameters.length) = some 0 := by decide +kernel
set_option maxHeartbeats 4000000 in
set_option maxRecDepth 100000 in
theorem c_X11_here (l : Launch) (D : va_G) (cI cJ cZ cA : ClassId) (ga : Nat → Nat) (q_M q_M_now : Nat) (u_M_images : Value) (u_M_kept : Value) (u_M_text : Value) (u_M_size : Value) (u_M_sign : Value) (u_M_manyAbove : Value) (u_M_manyBelow : Value) (u_M_above : Value) (u_M_below : Value) (u_M_refused : Value) (u_M_at : Value) (u_M_begin : Value) (u_M_kind : Value) (u_M_value : Value) (u_M_read : Value) (u_M_acts : Value) (u_M_act : Value) (u_M_waits : Value) (u_M_wait : Value) (u_M_held : Value) (u_M_heap : Value) (u_M_clocks : Value) (u_M_counts : Value) (u_M_talking : Value) (u_M_most : Value) (u_M_hasA : Value) (u_M_hasB : Value) (u_M_talks : Value) (u_M_big : Value) (v_M_place : Int32) (a_M_now : Nat → Int32) (o : Int32 × Int32) (hg : g_X11_here a_M_now v_M_place = some o) : zM l yX11_here (Cond.code yX11_here cX11_here 1 (some .int) :: wsL_law) rm_X11_here D (zTy cI cJ cZ cA) ga [.ref q_M] (ws_X11_here cI cJ cZ cA q_M q_M_now u_M_images u_M_kept u_M_text u_M_size u_M_sign u_M_manyAbove u_M_manyBelow u_M_above u_M_below u_M_refused u_M_at u_M_begin u_M_kind u_M_value u_M_read u_M_acts u_M_act u_M_waits u_M_wait u_M_held u_M_heap u_M_clocks u_M_counts u_M_talking u_M_most u_M_hasA u_M_hasB u_M_talks u_M_big v_M_place a_M_now) (ws_X11_here cI cJ cZ cA q_M q_M_now u_M_images u_M_kept u_M_text u_M_size u_M_sign u_M_manyAbove u_M_manyBelow u_M_above u_M_below u_M_refused u_M_at u_M_begin u_M_kind u_M_value u_M_read u_M_acts u_M_act u_M_waits u_M_wait u_M_held u_M_heap u_M_clocks u_M_counts u_M_talking u_M_most u_M_hasA u_M_hasB u_M_talks u_M_big o.2 a_M_now) (some (.int o.1)) := by
  refine zenterI (own := RX11) (by decide) rfl rfl (Nat.le_of_ble_eq_true rfl) ?_
  intro p e s m args below meth c A ls Q S hA hK hG hl hP hD hS hret0
  have hx := S.1
  have hb := S.2.1
  have ht : ∀ w, w ∈ wsL_law → w.before args s = true := fun w h => S.2.2.2.2 w (List.mem_cons_of_mem _ h)
  have hret : ∀ (r9 : Int32) (v_M_place : Int32), (some (r9, v_M_place) : Option (Int32 × Int32)) = some o → ∀ (H : Heap) (locs : List Loc) (pc : Nat) (ls : Array Slot), va_P D vwCl (ws_X11_here cI cJ cZ cA q_M q_M_now u_M_images u_M_kept u_M_text u_M_size u_M_sign u_M_manyAbove u_M_manyBelow u_M_above u_M_below u_M_refused u_M_at u_M_begin u_M_kind u_M_value u_M_read u_M_acts u_M_act u_M_waits u_M_wait u_M_held u_M_heap u_M_clocks u_M_counts u_M_talking u_M_most u_M_hasA u_M_hasB u_M_talks u_M_big v_M_place a_M_now) H → va_S A s.heap H locs → decode cX11_here pc = .ok (.ireturn, 1) → W p l e rm_X11_here s m args below meth c H locs 0 0 Q (F0 m pc ls [.int r9]) := by
    intro r9 v_M_place he; cases he; exact hret0
  have hl : lv_has ls 1 [(0, .ref q_M)] := hl
  have B44 : ∀ (v_M_place : Int32) (H : Heap) (locs : List Loc) (ls : Array Slot) (hl : lv_has ls 1 [(0, .ref q_M)]) (hP : va_P D vwCl (ws_X11_here cI cJ cZ cA q_M q_M_now u_M_images u_M_kept u_M_text u_M_size u_M_sign u_M_manyAbove u_M_manyBelow u_M_above u_M_below u_M_refused u_M_at u_M_begin u_M_kind u_M_value u_M_read u_M_acts u_M_act u_M_waits u_M_wait u_M_held u_M_heap u_M_clocks u_M_counts u_M_talking u_M_most u_M_hasA u_M_hasB u_M_talks u_M_big v_M_place a_M_now) H) (hD : va_D A (ws_X11_here cI cJ cZ cA q_M q_M_now u_M_images u_M_kept u_M_text u_M_size u_M_sign u_M_manyAbove u_M_manyBelow u_M_above u_M_below u_M_refused u_M_at u_M_begin u_M_kind u_M_value u_M_read u_M_acts u_M_act u_M_waits u_M_wait u_M_held u_M_heap u_M_clocks u_M_counts u_M_talking u_M_most u_M_hasA u_M_hasB u_M_talks u_M_big v_M_place a_M_now)) (hS : va_S A s.heap H locs), g_X11_here_44 a_M_now v_M_place = some o → W p l e rm_X11_here s m args below meth c H locs 0 0 Q (F0 m 44 ls []) := by
    intro  v_M_place H locs ls hl hP hD hS hg
    refine lv_aload_n hx hb dX11_here_44 rfl (lv_at hl 0 rfl) ?_
    refine zget (C := RX11) (T := TX11) (N := 31) S hK hP 0 rfl rfl 21 (Nat.le_of_ble_eq_true rfl) zf_11 zw_597 rfl dX11_here_45 ?_
    refine lv_aload_n hx hb dX11_here_48 rfl (lv_at hl 0 rfl) ?_
    refine zget (C := RX11) (T := TX11) (N := 31) S hK hP 0 rfl rfl 0 (Nat.le_of_ble_eq_true rfl) zf_11 zw_149 rfl dX11_here_49 ?_
    refine lv_bipush (v := 7) hx hb dX11_here_52 (by decide) ?_
    refine ziald hx hb hK hP 1 0 rfl rfl (j := 7) (zin (by decide)) (by decide) dX11_here_54 ?_
    refine lv_icmp_ge (tgt := 73) hx hb dX11_here_55 (by decide) (fun h55 => ?_) (fun h55 => ?_)
    · have hg := zp hg h55
      refine lv_iconst (v := (-1)) hx hb dX11_here_73 (by decide) ?_
      exact hret (-1) v_M_place hg _ _ _ _ hP hS dX11_here_74
    · have hg := zn hg h55
      refine lv_aload_n hx hb dX11_here_58 rfl (lv_at hl 0 rfl) ?_
      refine zget (C := RX11) (T := TX11) (N := 31) S hK hP 0 rfl rfl 0 (Nat.le_of_ble_eq_true rfl) zf_11 zw_149 rfl dX11_here_59 ?_
      refine lv_bipush (v := 115) hx hb dX11_here_62 (by decide) ?_
      refine lv_aload_n hx hb dX11_here_64 rfl (lv_at hl 0 rfl) ?_
      refine zget (C := RX11) (T := TX11) (N := 31) S hK hP 0 rfl rfl 21 (Nat.le_of_ble_eq_true rfl) zf_11 zw_597 rfl dX11_here_65 ?_
      refine lv_iadd hx hb dX11_here_68 ?_
      obtain ⟨h1, hg⟩ := zck hg
      refine ziald hx hb hK hP 1 0 rfl rfl (j := ((115 + v_M_place).toNatClampNeg)) h1 rfl dX11_here_69 ?_
      refine lv_goto (tgt := 74) hx hb dX11_here_70 (by decide) ?_
      exact hret (a_M_now ((115 + v_M_place).toNatClampNeg)) v_M_place hg _ _ _ _ hP hS dX11_here_74
  have B0 : ∀  (n : Nat) (v_M_place : Int32) (H : Heap) (locs : List Loc) (ls : Array Slot) (hl : lv_has ls 1 [(0, .ref q_M)]) (hP : va_P D vwCl (ws_X11_here cI cJ cZ cA q_M q_M_now u_M_images u_M_kept u_M_text u_M_size u_M_sign u_M_manyAbove u_M_manyBelow u_M_above u_M_below u_M_refused u_M_at u_M_begin u_M_kind u_M_value u_M_read u_M_acts u_M_act u_M_waits u_M_wait u_M_held u_M_heap u_M_clocks u_M_counts u_M_talking u_M_most u_M_hasA u_M_hasB u_M_talks u_M_big v_M_place a_M_now) H) (hD : va_D A (ws_X11_here cI cJ cZ cA q_M q_M_now u_M_images u_M_kept u_M_text u_M_size u_M_sign u_M_manyAbove u_M_manyBelow u_M_above u_M_below u_M_refused u_M_at u_M_begin u_M_kind u_M_value u_M_read u_M_acts u_M_act u_M_waits u_M_wait u_M_held u_M_heap u_M_clocks u_M_counts u_M_talking u_M_most u_M_hasA u_M_hasB u_M_talks u_M_big v_M_place a_M_now)) (hS : va_S A s.heap H locs), g_X11_here_0 a_M_now n v_M_place = some o → W p l e rm_X11_here s m args below meth c H locs 0 0 Q (F0 m 0 ls []) := by
    intro  n
    induction n with
    | zero => intro v_M_place H locs ls hl hP hD hS hg; exact nomatch (show (none : Option (Int32 × Int32)) = some o from hg)
    | succ n ih =>
      intro v_M_place H locs ls hl hP hD hS hg
      have hg : g_X11_here_0b a_M_now (g_X11_here_0 a_M_now n) v_M_place = some o := hg
      refine lv_aload_n hx hb dX11_here_0 rfl (lv_at hl 0 rfl) ?_
      refine zget (C := RX11) (T := TX11) (N := 31) S hK hP 0 rfl rfl 21 (Nat.le_of_ble_eq_true rfl) zf_11 zw_597 rfl dX11_here_1 ?_
      refine lv_aload_n hx hb dX11_here_4 rfl (lv_at hl 0 rfl) ?_
      refine zget (C := RX11) (T := TX11) (N := 31) S hK hP 0 rfl rfl 0 (Nat.le_of_ble_eq_true rfl) zf_11 zw_149 rfl dX11_here_5 ?_
      refine lv_bipush (v := 7) hx hb dX11_here_8 (by decide) ?_
      refine ziald hx hb hK hP 1 0 rfl rfl (j := 7) (zin (by decide)) (by decide) dX11_here_10 ?_
      refine lv_icmp_ge (tgt := 44) hx hb dX11_here_11 (by decide) (fun h11 => ?_) (fun h11 => ?_)
      · have hg := zp hg h11
        exact B44 v_M_place _ _ _ hl hP hD hS hg
      · have hg := zn hg h11
        refine lv_aload_n hx hb dX11_here_14 rfl (lv_at hl 0 rfl) ?_
        refine zget (C := RX11) (T := TX11) (N := 31) S hK hP 0 rfl rfl 0 (Nat.le_of_ble_eq_true rfl) zf_11 zw_149 rfl dX11_here_15 ?_
        refine lv_bipush (v := 115) hx hb dX11_here_18 (by decide) ?_
        refine lv_aload_n hx hb dX11_here_20 rfl (lv_at hl 0 rfl) ?_
        refine zget (C := RX11) (T := TX11) (N := 31) S hK hP 0 rfl rfl 21 (Nat.le_of_ble_eq_true rfl) zf_11 zw_597 rfl dX11_here_21 ?_
        refine lv_iadd hx hb dX11_here_24 ?_
        obtain ⟨h2, hg⟩ := zck hg
        refine ziald hx hb hK hP 1 0 rfl rfl (j := ((115 + v_M_place).toNatClampNeg)) h2 rfl dX11_here_25 ?_
        refine lv_bipush (v := 32) hx hb dX11_here_26 (by decide) ?_
        refine lv_icmp_ne (tgt := 44) hx hb dX11_here_28 (by decide) (fun h28 => ?_) (fun h28 => ?_)
        · have hg := zn hg h28
          exact B44 v_M_place _ _ _ hl hP hD hS hg
        · have hg := zp hg h28
          refine lv_aload_n hx hb dX11_here_31 rfl (lv_at hl 0 rfl) ?_
          refine lv_dup hx hb dX11_here_32 rfl ?_
          refine zget (C := RX11) (T := TX11) (N := 31) S hK hP 0 rfl rfl 21 (Nat.le_of_ble_eq_true rfl) zf_11 zw_597 rfl dX11_here_33 ?_
          refine lv_iconst (v := 1) hx hb dX11_here_36 (by decide) ?_
          refine lv_iadd hx hb dX11_here_37 ?_
          refine zputf (C := RX11) (T := TX11) (N := 31) (ty := .int) S hK hP hD hS 0 rfl rfl 21 (Nat.le_of_ble_eq_true rfl) zf_11 tyX11 tyX11_ok nmX11 zw_597 rfl (by decide +kernel) rfl rfl (Nat.le_of_ble_eq_true rfl) dX11_here_38 (w2 := (ws_X11_here cI cJ cZ cA q_M q_M_now u_M_images u_M_kept u_M_text u_M_size u_M_sign u_M_manyAbove u_M_manyBelow u_M_above u_M_below u_M_refused u_M_at u_M_begin u_M_kind u_M_value u_M_read u_M_acts u_M_act u_M_waits u_M_wait u_M_held u_M_heap u_M_clocks u_M_counts u_M_talking u_M_most u_M_hasA u_M_hasB u_M_talks u_M_big (v_M_place + 1) a_M_now)) rfl (fun H locs hP hD hS => ?_)
          refine lv_goto (tgt := 0) hx hb dX11_here_41 (by decide) ?_
          exact ih (v_M_place + 1) _ _ _ hl hP hD hS hg
  exact B0 zF v_M_place _ _ _ hl hP hD hS hg

