/-! SpokenClock$Reader.isFigure(I)Z -/
abbrev ws_X6_isFigure (cI cJ cZ cA : ClassId) : va_W := []
abbrev rm_X6_isFigure : Room := { frames := 0, cells := 0, slots := 0, locals := 0 }
def g_X6_isFigure (x0 : Int32) : Option (Int32) :=
  if x0 < 48 then (
    some (0)
  ) else (
    if 57 < x0 then (
      some (0)
    ) else (
      some (1)
    )
  )
theorem hd_X6_isFigure : yX6_isFigure.cls ≠ "java/lang/invoke/MethodHandle" ∧ yX6_isFigure.cls ≠ "java/lang/invoke/VarHandle" ∧ (parseMethodDescriptor yX6_isFigure.desc).map (fun d => d.parameters.length) = some 1 := by decide +kernel
set_option maxHeartbeats 4000000 in
set_option maxRecDepth 100000 in
theorem c_X6_isFigure (l : Launch) (D : va_G) (cI cJ cZ cA : ClassId) (ga : Nat → Nat) (x0 : Int32) (o : Int32) (hg : g_X6_isFigure x0 = some o) : zM l yX6_isFigure (Cond.code yX6_isFigure cX6_isFigure 1 (some .boolean) :: wsL_law) rm_X6_isFigure D (zTy cI cJ cZ cA) ga [.int x0] (ws_X6_isFigure cI cJ cZ cA) (ws_X6_isFigure cI cJ cZ cA) (some (.int o)) := by
  refine zenterN (own := RX6) (by decide) rfl rfl (Nat.le_of_ble_eq_true rfl) ?_
  intro p e s m args below meth c A ls Q S hA hK hG hl hP hD hS hret0
  have hx := S.1
  have hb := S.2.1
  have ht : ∀ w, w ∈ wsL_law → w.before args s = true := fun w h => S.2.2.2.2 w (List.mem_cons_of_mem _ h)
  have hret : ∀ (r9 : Int32), (some (r9) : Option (Int32)) = some o → narrow .boolean (.int r9) = .int r9 → ∀ (H : Heap) (locs : List Loc) (pc : Nat) (ls : Array Slot), va_P D vwCl (ws_X6_isFigure cI cJ cZ cA) H → va_S A s.heap H locs → decode cX6_isFigure pc = .ok (.ireturn, 1) → W p l e rm_X6_isFigure s m args below meth c H locs 0 0 Q (F0 m pc ls [.int r9]) := by
    intro r9 he; cases he; exact hret0
  have hl : lv_has ls 1 [(0, .int x0)] := hl
  refine lv_iload_n hx hb dX6_isFigure_0 rfl (lv_at hl 0 rfl) ?_
  refine lv_bipush (v := 48) hx hb dX6_isFigure_1 (by decide) ?_
  refine lv_icmp_lt (tgt := 16) hx hb dX6_isFigure_3 (by decide) (fun h3 => ?_) (fun h3 => ?_)
  · have hg := zp hg h3
    refine lv_iconst (v := 0) hx hb dX6_isFigure_16 (by decide) ?_
    exact hret 0 hg (zb01 (Or.inl rfl)) _ _ _ _ hP hS dX6_isFigure_17
  · have hg := zn hg h3
    refine lv_iload_n hx hb dX6_isFigure_6 rfl (lv_at hl 0 rfl) ?_
    refine lv_bipush (v := 57) hx hb dX6_isFigure_7 (by decide) ?_
    refine lv_icmp_gt (tgt := 16) hx hb dX6_isFigure_9 (by decide) (fun h9 => ?_) (fun h9 => ?_)
    · have hg := zp hg h9
      refine lv_iconst (v := 0) hx hb dX6_isFigure_16 (by decide) ?_
      exact hret 0 hg (zb01 (Or.inl rfl)) _ _ _ _ hP hS dX6_isFigure_17
    · have hg := zn hg h9
      refine lv_iconst (v := 1) hx hb dX6_isFigure_12 (by decide) ?_
      refine lv_goto (tgt := 17) hx hb dX6_isFigure_13 (by decide) ?_
      exact hret 1 hg (zb01 (Or.inr rfl)) _ _ _ _ hP hS dX6_isFigure_17

/-! SpokenClock$Reader.isLetter(I)Z -/
abbrev ws_X6_isLetter (cI cJ cZ cA : ClassId) : va_W := []
abbrev rm_X6_isLetter : Room := { frames := 0, cells := 0, slots := 0, locals := 0 }
def g_X6_isLetter (x0 : Int32) : Option (Int32) :=
  if x0 < 97 then (
    some (0)
  ) else (
    if 122 < x0 then (
      some (0)
    ) else (
      some (1)
    )
  )
theorem hd_X6_isLetter : yX6_isLetter.cls ≠ "java/lang/invoke/MethodHandle" ∧ yX6_isLetter.cls ≠ "java/lang/invoke/VarHandle" ∧ (parseMethodDescriptor yX6_isLetter.desc).map (fun d => d.parameters.length) = some 1 := by decide +kernel
set_option maxHeartbeats 4000000 in
set_option maxRecDepth 100000 in
theorem c_X6_isLetter (l : Launch) (D : va_G) (cI cJ cZ cA : ClassId) (ga : Nat → Nat) (x0 : Int32) (o : Int32) (hg : g_X6_isLetter x0 = some o) : zM l yX6_isLetter (Cond.code yX6_isLetter cX6_isLetter 1 (some .boolean) :: wsL_law) rm_X6_isLetter D (zTy cI cJ cZ cA) ga [.int x0] (ws_X6_isLetter cI cJ cZ cA) (ws_X6_isLetter cI cJ cZ cA) (some (.int o)) := by
  refine zenterN (own := RX6) (by decide) rfl rfl (Nat.le_of_ble_eq_true rfl) ?_
  intro p e s m args below meth c A ls Q S hA hK hG hl hP hD hS hret0
  have hx := S.1
  have hb := S.2.1
  have ht : ∀ w, w ∈ wsL_law → w.before args s = true := fun w h => S.2.2.2.2 w (List.mem_cons_of_mem _ h)
  have hret : ∀ (r9 : Int32), (some (r9) : Option (Int32)) = some o → narrow .boolean (.int r9) = .int r9 → ∀ (H : Heap) (locs : List Loc) (pc : Nat) (ls : Array Slot), va_P D vwCl (ws_X6_isLetter cI cJ cZ cA) H → va_S A s.heap H locs → decode cX6_isLetter pc = .ok (.ireturn, 1) → W p l e rm_X6_isLetter s m args below meth c H locs 0 0 Q (F0 m pc ls [.int r9]) := by
    intro r9 he; cases he; exact hret0
  have hl : lv_has ls 1 [(0, .int x0)] := hl
  refine lv_iload_n hx hb dX6_isLetter_0 rfl (lv_at hl 0 rfl) ?_
  refine lv_bipush (v := 97) hx hb dX6_isLetter_1 (by decide) ?_
  refine lv_icmp_lt (tgt := 16) hx hb dX6_isLetter_3 (by decide) (fun h3 => ?_) (fun h3 => ?_)
  · have hg := zp hg h3
    refine lv_iconst (v := 0) hx hb dX6_isLetter_16 (by decide) ?_
    exact hret 0 hg (zb01 (Or.inl rfl)) _ _ _ _ hP hS dX6_isLetter_17
  · have hg := zn hg h3
    refine lv_iload_n hx hb dX6_isLetter_6 rfl (lv_at hl 0 rfl) ?_
    refine lv_bipush (v := 122) hx hb dX6_isLetter_7 (by decide) ?_
    refine lv_icmp_gt (tgt := 16) hx hb dX6_isLetter_9 (by decide) (fun h9 => ?_) (fun h9 => ?_)
    · have hg := zp hg h9
      refine lv_iconst (v := 0) hx hb dX6_isLetter_16 (by decide) ?_
      exact hret 0 hg (zb01 (Or.inl rfl)) _ _ _ _ hP hS dX6_isLetter_17
    · have hg := zn hg h9
      refine lv_iconst (v := 1) hx hb dX6_isLetter_12 (by decide) ?_
      refine lv_goto (tgt := 17) hx hb dX6_isLetter_13 (by decide) ?_
      exact hret 1 hg (zb01 (Or.inr rfl)) _ _ _ _ hP hS dX6_isLetter_17

/-! SpokenClock$Rows.at(II)I -/
abbrev ws_X7_at (cI cJ cZ cA : ClassId) (q_R q_R_cells : Nat) (u_R_limit : Value) (N_R_cells : Nat) (v_R_width : Int32) (v_R_size : Int32) (a_R_cells : Nat → Int32) : va_W := [(q_R, .inr (7, [.int v_R_width, u_R_limit, .ref q_R_cells, .int v_R_size])), (q_R_cells, .inl (cI, N_R_cells, .inl a_R_cells))]
abbrev rm_X7_at : Room := { frames := 0, cells := 0, slots := 0, locals := 0 }
def g_X7_at (N_R_cells : Nat) (v_R_width : Int32) (v_R_size : Int32) (a_R_cells : Nat → Int32) (x1 : Int32) (x2 : Int32) : Option (Int32) :=
  if x1 < 0 then (
    some (0)
  ) else (
    if v_R_size ≤ x1 then (
      some (0)
    ) else (
      if x2 < 0 then (
        some (0)
      ) else (
        if x2 < v_R_width then (
          if ((x1 * v_R_width) + x2) < 0 ∨ N_R_cells ≤ ((x1 * v_R_width) + x2).toNatClampNeg then none else
          some (a_R_cells (((x1 * v_R_width) + x2).toNatClampNeg))
        ) else (
          some (0)
        )
      )
    )
  )
theorem hd_X7_at : yX7_at.cls = RX7 ∧ yX7_at.cls ≠ "java/lang/invoke/MethodHandle" ∧ yX7_at.cls ≠ "java/lang/invoke/VarHandle" ∧ (parseMethodDescriptor yX7_at.desc).map (fun d => d.parameters.length) = some 2 := by decide +kernel
set_option maxHeartbeats 4000000 in
set_option maxRecDepth 100000 in
theorem c_X7_at (l : Launch) (D : va_G) (cI cJ cZ cA : ClassId) (ga : Nat → Nat) (q_R q_R_cells : Nat) (u_R_limit : Value) (N_R_cells : Nat) (v_R_width : Int32) (v_R_size : Int32) (a_R_cells : Nat → Int32) (x1 : Int32) (x2 : Int32) (o : Int32) (hg : g_X7_at N_R_cells v_R_width v_R_size a_R_cells x1 x2 = some o) : zM l yX7_at (Cond.code yX7_at cX7_at 3 (some .int) :: wsL_law) rm_X7_at D (zTy cI cJ cZ cA) ga [.ref q_R, .int x1, .int x2] (ws_X7_at cI cJ cZ cA q_R q_R_cells u_R_limit N_R_cells v_R_width v_R_size a_R_cells) (ws_X7_at cI cJ cZ cA q_R q_R_cells u_R_limit N_R_cells v_R_width v_R_size a_R_cells) (some (.int o)) := by
  refine zenterI (own := RX7) (by decide) rfl rfl (Nat.le_of_ble_eq_true rfl) ?_
  intro p e s m args below meth c A ls Q S hA hK hG hl hP hD hS hret0
  have hx := S.1
  have hb := S.2.1
  have ht : ∀ w, w ∈ wsL_law → w.before args s = true := fun w h => S.2.2.2.2 w (List.mem_cons_of_mem _ h)
  have hret : ∀ (r9 : Int32), (some (r9) : Option (Int32)) = some o → ∀ (H : Heap) (locs : List Loc) (pc : Nat) (ls : Array Slot), va_P D vwCl (ws_X7_at cI cJ cZ cA q_R q_R_cells u_R_limit N_R_cells v_R_width v_R_size a_R_cells) H → va_S A s.heap H locs → decode cX7_at pc = .ok (.ireturn, 1) → W p l e rm_X7_at s m args below meth c H locs 0 0 Q (F0 m pc ls [.int r9]) := by
    intro r9 he; cases he; exact hret0
  have hl : lv_has ls 3 [(0, .ref q_R), (1, .int x1), (2, .int x2)] := hl
  refine lv_iload_n hx hb dX7_at_0 rfl (lv_at hl 1 rfl) ?_
  refine lv_if_lt (tgt := 24) hx hb dX7_at_1 (by decide) (fun h1 => ?_) (fun h1 => ?_)
  · have hg := zp hg h1
    refine lv_iconst (v := 0) hx hb dX7_at_24 (by decide) ?_
    exact hret 0 hg _ _ _ _ hP hS dX7_at_25
  · have hg := zn hg h1
    refine lv_iload_n hx hb dX7_at_4 rfl (lv_at hl 1 rfl) ?_
    refine lv_aload_n hx hb dX7_at_5 rfl (lv_at hl 0 rfl) ?_
    refine zget (C := RX7) (T := TX7) (N := 4) S hK hP 0 rfl rfl 3 (Nat.le_of_ble_eq_true rfl) zf_7 zw_183 rfl dX7_at_6 ?_
    refine lv_icmp_ge (tgt := 24) hx hb dX7_at_9 (by decide) (fun h9 => ?_) (fun h9 => ?_)
    · have hg := zp hg h9
      refine lv_iconst (v := 0) hx hb dX7_at_24 (by decide) ?_
      exact hret 0 hg _ _ _ _ hP hS dX7_at_25
    · have hg := zn hg h9
      refine lv_iload_n hx hb dX7_at_12 rfl (lv_at hl 2 rfl) ?_
      refine lv_if_lt (tgt := 24) hx hb dX7_at_13 (by decide) (fun h13 => ?_) (fun h13 => ?_)
      · have hg := zp hg h13
        refine lv_iconst (v := 0) hx hb dX7_at_24 (by decide) ?_
        exact hret 0 hg _ _ _ _ hP hS dX7_at_25
      · have hg := zn hg h13
        refine lv_iload_n hx hb dX7_at_16 rfl (lv_at hl 2 rfl) ?_
        refine lv_aload_n hx hb dX7_at_17 rfl (lv_at hl 0 rfl) ?_
        refine zget (C := RX7) (T := TX7) (N := 4) S hK hP 0 rfl rfl 0 (Nat.le_of_ble_eq_true rfl) zf_7 zw_98 rfl dX7_at_18 ?_
        refine lv_icmp_lt (tgt := 26) hx hb dX7_at_21 (by decide) (fun h21 => ?_) (fun h21 => ?_)
        · have hg := zp hg h21
          refine lv_aload_n hx hb dX7_at_26 rfl (lv_at hl 0 rfl) ?_
          refine zget (C := RX7) (T := TX7) (N := 4) S hK hP 0 rfl rfl 2 (Nat.le_of_ble_eq_true rfl) zf_7 zw_100 rfl dX7_at_27 ?_
          refine lv_iload_n hx hb dX7_at_30 rfl (lv_at hl 1 rfl) ?_
          refine lv_aload_n hx hb dX7_at_31 rfl (lv_at hl 0 rfl) ?_
          refine zget (C := RX7) (T := TX7) (N := 4) S hK hP 0 rfl rfl 0 (Nat.le_of_ble_eq_true rfl) zf_7 zw_98 rfl dX7_at_32 ?_
          refine lv_imul hx hb dX7_at_35 ?_
          refine lv_iload_n hx hb dX7_at_36 rfl (lv_at hl 2 rfl) ?_
          refine lv_iadd hx hb dX7_at_37 ?_
          obtain ⟨h1, hg⟩ := zck hg
          refine ziald hx hb hK hP 1 0 rfl rfl (j := (((x1 * v_R_width) + x2).toNatClampNeg)) h1 rfl dX7_at_38 ?_
          exact hret (a_R_cells (((x1 * v_R_width) + x2).toNatClampNeg)) hg _ _ _ _ hP hS dX7_at_39
        · have hg := zn hg h21
          refine lv_iconst (v := 0) hx hb dX7_at_24 (by decide) ?_
          exact hret 0 hg _ _ _ _ hP hS dX7_at_25

/-! SpokenClock$Reader.passFigures()V -/
abbrev ws_X6_passFigures (cI cJ cZ cA : ClassId) (q_X_reader q_X_text q_X_text_cells : Nat) (u_X_reader_state : Value) (u_X_reader_numbers : Value) (u_X_text_limit : Value) (N_X_text_cells : Nat) (v_X_reader_place : Int32) (v_X_reader_token : Int32) (v_X_reader_first : Int32) (v_X_reader_number : Int32) (v_X_text_width : Int32) (v_X_text_size : Int32) (a_X_text_cells : Nat → Int32) : va_W := [(q_X_reader, .inr (6, [.ref q_X_text, u_X_reader_state, u_X_reader_numbers, .int v_X_reader_place, .int v_X_reader_token, .int v_X_reader_first, .int v_X_reader_number])), (q_X_text, .inr (7, [.int v_X_text_width, u_X_text_limit, .ref q_X_text_cells, .int v_X_text_size])), (q_X_text_cells, .inl (cI, N_X_text_cells, .inl a_X_text_cells))]
abbrev rm_X6_passFigures : Room := { frames := 1, cells := 0, slots := 0, locals := 22 }
def g_X6_passFigures_109 (N_X_text_cells : Nat) (v_X_reader_first : Int32) (v_X_text_width : Int32) (v_X_text_size : Int32) (a_X_text_cells : Nat → Int32) (t1 : Int32) (v_X_reader_place : Int32) (v_X_reader_token : Int32) (v_X_reader_number : Int32) : Option (Int32 × Int32 × Int32) :=
  some (v_X_reader_place, t1, v_X_reader_number)
def g_X6_passFigures_90 (N_X_text_cells : Nat) (v_X_reader_first : Int32) (v_X_text_width : Int32) (v_X_text_size : Int32) (a_X_text_cells : Nat → Int32) (v_X_reader_place : Int32) (v_X_reader_token : Int32) (v_X_reader_number : Int32) : Option (Int32 × Int32 × Int32) :=
  if (v_X_reader_place - v_X_reader_first) ≤ 3 then (
    g_X6_passFigures_109 N_X_text_cells v_X_reader_first v_X_text_width v_X_text_size a_X_text_cells 2 v_X_reader_place v_X_reader_token v_X_reader_number
  ) else (
    g_X6_passFigures_109 N_X_text_cells v_X_reader_first v_X_text_width v_X_text_size a_X_text_cells 5 v_X_reader_place v_X_reader_token v_X_reader_number
  )
def g_X6_passFigures_77 (N_X_text_cells : Nat) (v_X_reader_first : Int32) (v_X_text_width : Int32) (v_X_text_size : Int32) (a_X_text_cells : Nat → Int32) (k5 : Int32 → Int32 → Int32 → Option (Int32 × Int32 × Int32)) (v_X_reader_place : Int32) (v_X_reader_token : Int32) (v_X_reader_number : Int32) : Option (Int32 × Int32 × Int32) :=
  k5 (v_X_reader_place + 1) v_X_reader_token v_X_reader_number
def g_X6_passFigures_5b (N_X_text_cells : Nat) (v_X_reader_first : Int32) (v_X_text_width : Int32) (v_X_text_size : Int32) (a_X_text_cells : Nat → Int32) (k5 : Int32 → Int32 → Int32 → Option (Int32 × Int32 × Int32)) (v_X_reader_place : Int32) (v_X_reader_token : Int32) (v_X_reader_number : Int32) : Option (Int32 × Int32 × Int32) :=
  (g_X7_size v_X_text_size).bind fun v1 =>
  if v1 ≤ v_X_reader_place then (
    g_X6_passFigures_90 N_X_text_cells v_X_reader_first v_X_text_width v_X_text_size a_X_text_cells v_X_reader_place v_X_reader_token v_X_reader_number
  ) else (
    (g_X7_at N_X_text_cells v_X_text_width v_X_text_size a_X_text_cells v_X_reader_place 0).bind fun v3 =>
    (g_X6_isFigure v3).bind fun v5 =>
    if v5 = 0 then (
      g_X6_passFigures_90 N_X_text_cells v_X_reader_first v_X_text_width v_X_text_size a_X_text_cells v_X_reader_place v_X_reader_token v_X_reader_number
    ) else (
      if 3 ≤ (v_X_reader_place - v_X_reader_first) then (
        g_X6_passFigures_77 N_X_text_cells v_X_reader_first v_X_text_width v_X_text_size a_X_text_cells k5 v_X_reader_place v_X_reader_token v_X_reader_number
      ) else (
        (g_X7_at N_X_text_cells v_X_text_width v_X_text_size a_X_text_cells v_X_reader_place 0).bind fun v7 =>
        g_X6_passFigures_77 N_X_text_cells v_X_reader_first v_X_text_width v_X_text_size a_X_text_cells k5 v_X_reader_place v_X_reader_token (((10 * v_X_reader_number) + v7) - 48)
      )
    )
  )
def g_X6_passFigures_5 (N_X_text_cells : Nat) (v_X_reader_first : Int32) (v_X_text_width : Int32) (v_X_text_size : Int32) (a_X_text_cells : Nat → Int32) : Nat → Int32 → Int32 → Int32 → Option (Int32 × Int32 × Int32)
  | 0, _, _, _ => none
  | n + 1, v_X_reader_place, v_X_reader_token, v_X_reader_number => g_X6_passFigures_5b N_X_text_cells v_X_reader_first v_X_text_width v_X_text_size a_X_text_cells (g_X6_passFigures_5 N_X_text_cells v_X_reader_first v_X_text_width v_X_text_size a_X_text_cells n) v_X_reader_place v_X_reader_token v_X_reader_number
def g_X6_passFigures (N_X_text_cells : Nat) (v_X_reader_first : Int32) (v_X_text_width : Int32) (v_X_text_size : Int32) (a_X_text_cells : Nat → Int32) (v_X_reader_place : Int32) (v_X_reader_token : Int32) (v_X_reader_number : Int32) : Option (Int32 × Int32 × Int32) :=
  g_X6_passFigures_5 N_X_text_cells v_X_reader_first v_X_text_width v_X_text_size a_X_text_cells zF v_X_reader_place v_X_reader_token 0
theorem hd_X6_passFigures : yX6_passFigures.cls = RX6 ∧ yX6_passFigures.cls ≠ "java/lang/invoke/MethodHandle" ∧ yX6_passFigures.cls ≠ "java/lang/invoke/VarHandle" ∧ (parseMethodDescriptor yX6_passFigures.desc).map (fun d => d.parameters.length) = some 0 := by decide +kernel
set_option maxHeartbeats 4000000 in
set_option maxRecDepth 100000 in
theorem c_X6_passFigures (l : Launch) (D : va_G) (cI cJ cZ cA : ClassId) (ga : Nat → Nat) (q_X_reader q_X_text q_X_text_cells : Nat) (u_X_reader_state : Value) (u_X_reader_numbers : Value) (u_X_text_limit : Value) (N_X_text_cells : Nat) (v_X_reader_place : Int32) (v_X_reader_token : Int32) (v_X_reader_first : Int32) (v_X_reader_number : Int32) (v_X_text_width : Int32) (v_X_text_size : Int32) (a_X_text_cells : Nat → Int32) (o : Int32 × Int32 × Int32) (hg : g_X6_passFigures N_X_text_cells v_X_reader_first v_X_text_width v_X_text_size a_X_text_cells v_X_reader_place v_X_reader_token v_X_reader_number = some o) : zM l yX6_passFigures (Cond.code yX6_passFigures cX6_passFigures 1 none :: wsL_law) rm_X6_passFigures D (zTy cI cJ cZ cA) ga [.ref q_X_reader] (ws_X6_passFigures cI cJ cZ cA q_X_reader q_X_text q_X_text_cells u_X_reader_state u_X_reader_numbers u_X_text_limit N_X_text_cells v_X_reader_place v_X_reader_token v_X_reader_first v_X_reader_number v_X_text_width v_X_text_size a_X_text_cells) (ws_X6_passFigures cI cJ cZ cA q_X_reader q_X_text q_X_text_cells u_X_reader_state u_X_reader_numbers u_X_text_limit N_X_text_cells o.1 o.2.1 v_X_reader_first o.2.2 v_X_text_width v_X_text_size a_X_text_cells) none := by
  refine zenterV (own := RX6) (by decide) rfl rfl (Nat.le_of_ble_eq_true rfl) ?_
  intro p e s m args below meth c A ls Q S hA hK hG hl hP hD hS hret0
  have hx := S.1
  have hb := S.2.1
  have ht : ∀ w, w ∈ wsL_law → w.before args s = true := fun w h => S.2.2.2.2 w (List.mem_cons_of_mem _ h)
  have hret : ∀ (v_X_reader_place : Int32) (v_X_reader_token : Int32) (v_X_reader_number : Int32), (some (v_X_reader_place, v_X_reader_token, v_X_reader_number) : Option (Int32 × Int32 × Int32)) = some o → ∀ (H : Heap) (locs : List Loc) (pc : Nat) (ls : Array Slot), va_P D vwCl (ws_X6_passFigures cI cJ cZ cA q_X_reader q_X_text q_X_text_cells u_X_reader_state u_X_reader_numbers u_X_text_limit N_X_text_cells v_X_reader_place v_X_reader_token v_X_reader_first v_X_reader_number v_X_text_width v_X_text_size a_X_text_cells) H → va_S A s.heap H locs → decode cX6_passFigures pc = .ok (.return_, 1) → W p l e rm_X6_passFigures s m args below meth c H locs 0 0 Q (F0 m pc ls []) := by
    intro v_X_reader_place v_X_reader_token v_X_reader_number he; cases he; exact hret0
  have hl : lv_has ls 1 [(0, .ref q_X_reader)] := hl
  have B109 : ∀ (t1 : Int32) (v_X_reader_place : Int32) (v_X_reader_token : Int32) (v_X_reader_number : Int32) (H : Heap) (locs : List Loc) (ls : Array Slot) (hl : lv_has ls 1 []) (hP : va_P D vwCl (ws_X6_passFigures cI cJ cZ cA q_X_reader q_X_text q_X_text_cells u_X_reader_state u_X_reader_numbers u_X_text_limit N_X_text_cells v_X_reader_place v_X_reader_token v_X_reader_first v_X_reader_number v_X_text_width v_X_text_size a_X_text_cells) H) (hD : va_D A (ws_X6_passFigures cI cJ cZ cA q_X_reader q_X_text q_X_text_cells u_X_reader_state u_X_reader_numbers u_X_text_limit N_X_text_cells v_X_reader_place v_X_reader_token v_X_reader_first v_X_reader_number v_X_text_width v_X_text_size a_X_text_cells)) (hS : va_S A s.heap H locs), g_X6_passFigures_109 N_X_text_cells v_X_reader_first v_X_text_width v_X_text_size a_X_text_cells t1 v_X_reader_place v_X_reader_token v_X_reader_number = some o → W p l e rm_X6_passFigures s m args below meth c H locs 0 0 Q (F0 m 109 ls [.int t1, .ref q_X_reader]) := by
    intro  t1 v_X_reader_place v_X_reader_token v_X_reader_number H locs ls hl hP hD hS hg
    refine zputf (C := RX6) (T := TX6) (N := 7) (ty := .int) S hK hP hD hS 0 rfl rfl 4 (Nat.le_of_ble_eq_true rfl) zf_6 tyX6 tyX6_ok nmX6 zw_345 rfl (by decide +kernel) rfl rfl (Nat.le_of_ble_eq_true rfl) dX6_passFigures_109 (w2 := (ws_X6_passFigures cI cJ cZ cA q_X_reader q_X_text q_X_text_cells u_X_reader_state u_X_reader_numbers u_X_text_limit N_X_text_cells v_X_reader_place t1 v_X_reader_first v_X_reader_number v_X_text_width v_X_text_size a_X_text_cells)) rfl (fun H locs hP hD hS => ?_)
    exact hret v_X_reader_place t1 v_X_reader_number hg _ _ _ _ hP hS dX6_passFigures_112
  have B90 : ∀ (v_X_reader_place : Int32) (v_X_reader_token : Int32) (v_X_reader_number : Int32) (H : Heap) (locs : List Loc) (ls : Array Slot) (hl : lv_has ls 1 [(0, .ref q_X_reader)]) (hP : va_P D vwCl (ws_X6_passFigures cI cJ cZ cA q_X_reader q_X_text q_X_text_cells u_X_reader_state u_X_reader_numbers u_X_text_limit N_X_text_cells v_X_reader_place v_X_reader_token v_X_reader_first v_X_reader_number v_X_text_width v_X_text_size a_X_text_cells) H) (hD : va_D A (ws_X6_passFigures cI cJ cZ cA q_X_reader q_X_text q_X_text_cells u_X_reader_state u_X_reader_numbers u_X_text_limit N_X_text_cells v_X_reader_place v_X_reader_token v_X_reader_first v_X_reader_number v_X_text_width v_X_text_size a_X_text_cells)) (hS : va_S A s.heap H locs), g_X6_passFigures_90 N_X_text_cells v_X_reader_first v_X_text_width v_X_text_size a_X_text_cells v_X_reader_place v_X_reader_token v_X_reader_number = some o → W p l e rm_X6_passFigures s m args below meth c H locs 0 0 Q (F0 m 90 ls []) := by
    intro  v_X_reader_place v_X_reader_token v_X_reader_number H locs ls hl hP hD hS hg
    refine lv_aload_n hx hb dX6_passFigures_90 rfl (lv_at hl 0 rfl) ?_
    refine lv_aload_n hx hb dX6_passFigures_91 rfl (lv_at hl 0 rfl) ?_
    refine zget (C := RX6) (T := TX6) (N := 7) S hK hP 0 rfl rfl 3 (Nat.le_of_ble_eq_true rfl) zf_6 zw_344 rfl dX6_passFigures_92 ?_
    refine lv_aload_n hx hb dX6_passFigures_95 rfl (lv_at hl 0 rfl) ?_
    refine zget (C := RX6) (T := TX6) (N := 7) S hK hP 0 rfl rfl 5 (Nat.le_of_ble_eq_true rfl) zf_6 zw_346 rfl dX6_passFigures_96 ?_
    refine lv_isub hx hb dX6_passFigures_99 ?_
    refine lv_iconst (v := 3) hx hb dX6_passFigures_100 (by decide) ?_
    refine lv_icmp_le (tgt := 108) hx hb dX6_passFigures_101 (by decide) (fun h101 => ?_) (fun h101 => ?_)
    · have hg := zp hg h101
      refine lv_iconst (v := 2) hx hb dX6_passFigures_108 (by decide) ?_
      exact B109 2 v_X_reader_place v_X_reader_token v_X_reader_number _ _ _ (lv_sub hl [] rfl) hP hD hS hg
    · have hg := zn hg h101
      refine lv_iconst (v := 5) hx hb dX6_passFigures_104 (by decide) ?_
      refine lv_goto (tgt := 109) hx hb dX6_passFigures_105 (by decide) ?_
      exact B109 5 v_X_reader_place v_X_reader_token v_X_reader_number _ _ _ (lv_sub hl [] rfl) hP hD hS hg
  have B77 : ∀ (k5 : Int32 → Int32 → Int32 → Option (Int32 × Int32 × Int32)) (hk5 : ∀ (v_X_reader_place : Int32) (v_X_reader_token : Int32) (v_X_reader_number : Int32) (H : Heap) (locs : List Loc) (ls : Array Slot) (hl : lv_has ls 1 [(0, .ref q_X_reader)]) (hP : va_P D vwCl (ws_X6_passFigures cI cJ cZ cA q_X_reader q_X_text q_X_text_cells u_X_reader_state u_X_reader_numbers u_X_text_limit N_X_text_cells v_X_reader_place v_X_reader_token v_X_reader_first v_X_reader_number v_X_text_width v_X_text_size a_X_text_cells) H) (hD : va_D A (ws_X6_passFigures cI cJ cZ cA q_X_reader q_X_text q_X_text_cells u_X_reader_state u_X_reader_numbers u_X_text_limit N_X_text_cells v_X_reader_place v_X_reader_token v_X_reader_first v_X_reader_number v_X_text_width v_X_text_size a_X_text_cells)) (hS : va_S A s.heap H locs), k5 v_X_reader_place v_X_reader_token v_X_reader_number = some o → W p l e rm_X6_passFigures s m args below meth c H locs 0 0 Q (F0 m 5 ls [])) (v_X_reader_place : Int32) (v_X_reader_token : Int32) (v_X_reader_number : Int32) (H : Heap) (locs : List Loc) (ls : Array Slot) (hl : lv_has ls 1 [(0, .ref q_X_reader)]) (hP : va_P D vwCl (ws_X6_passFigures cI cJ cZ cA q_X_reader q_X_text q_X_text_cells u_X_reader_state u_X_reader_numbers u_X_text_limit N_X_text_cells v_X_reader_place v_X_reader_token v_X_reader_first v_X_reader_number v_X_text_width v_X_text_size a_X_text_cells) H) (hD : va_D A (ws_X6_passFigures cI cJ cZ cA q_X_reader q_X_text q_X_text_cells u_X_reader_state u_X_reader_numbers u_X_text_limit N_X_text_cells v_X_reader_place v_X_reader_token v_X_reader_first v_X_reader_number v_X_text_width v_X_text_size a_X_text_cells)) (hS : va_S A s.heap H locs), g_X6_passFigures_77 N_X_text_cells v_X_reader_first v_X_text_width v_X_text_size a_X_text_cells k5 v_X_reader_place v_X_reader_token v_X_reader_number = some o → W p l e rm_X6_passFigures s m args below meth c H locs 0 0 Q (F0 m 77 ls []) := by
    intro k5 hk5 v_X_reader_place v_X_reader_token v_X_reader_number H locs ls hl hP hD hS hg
    refine lv_aload_n hx hb dX6_passFigures_77 rfl (lv_at hl 0 rfl) ?_
    refine lv_dup hx hb dX6_passFigures_78 rfl ?_
    refine zget (C := RX6) (T := TX6) (N := 7) S hK hP 0 rfl rfl 3 (Nat.le_of_ble_eq_true rfl) zf_6 zw_344 rfl dX6_passFigures_79 ?_
    refine lv_iconst (v := 1) hx hb dX6_passFigures_82 (by decide) ?_
    refine lv_iadd hx hb dX6_passFigures_83 ?_
    refine zputf (C := RX6) (T := TX6) (N := 7) (ty := .int) S hK hP hD hS 0 rfl rfl 3 (Nat.le_of_ble_eq_true rfl) zf_6 tyX6 tyX6_ok nmX6 zw_344 rfl (by decide +kernel) rfl rfl (Nat.le_of_ble_eq_true rfl) dX6_passFigures_84 (w2 := (ws_X6_passFigures cI cJ cZ cA q_X_reader q_X_text q_X_text_cells u_X_reader_state u_X_reader_numbers u_X_text_limit N_X_text_cells (v_X_reader_place + 1) v_X_reader_token v_X_reader_first v_X_reader_number v_X_text_width v_X_text_size a_X_text_cells)) rfl (fun H locs hP hD hS => ?_)
    refine lv_goto (tgt := 5) hx hb dX6_passFigures_87 (by decide) ?_
    exact hk5 (v_X_reader_place + 1) v_X_reader_token v_X_reader_number _ _ _ hl hP hD hS hg
  have B5 : ∀  (n : Nat) (v_X_reader_place : Int32) (v_X_reader_token : Int32) (v_X_reader_number : Int32) (H : Heap) (locs : List Loc) (ls : Array Slot) (hl : lv_has ls 1 [(0, .ref q_X_reader)]) (hP : va_P D vwCl (ws_X6_passFigures cI cJ cZ cA q_X_reader q_X_text q_X_text_cells u_X_reader_state u_X_reader_numbers u_X_text_limit N_X_text_cells v_X_reader_place v_X_reader_token v_X_reader_first v_X_reader_number v_X_text_width v_X_text_size a_X_text_cells) H) (hD : va_D A (ws_X6_passFigures cI cJ cZ cA q_X_reader q_X_text q_X_text_cells u_X_reader_state u_X_reader_numbers u_X_text_limit N_X_text_cells v_X_reader_place v_X_reader_token v_X_reader_first v_X_reader_number v_X_text_width v_X_text_size a_X_text_cells)) (hS : va_S A s.heap H locs), g_X6_passFigures_5 N_X_text_cells v_X_reader_first v_X_text_width v_X_text_size a_X_text_cells n v_X_reader_place v_X_reader_token v_X_reader_number = some o → W p l e rm_X6_passFigures s m args below meth c H locs 0 0 Q (F0 m 5 ls []) := by
    intro  n
    induction n with
    | zero => intro v_X_reader_place v_X_reader_token v_X_reader_number H locs ls hl hP hD hS hg; exact nomatch (show (none : Option (Int32 × Int32 × Int32)) = some o from hg)
    | succ n ih =>
      intro v_X_reader_place v_X_reader_token v_X_reader_number H locs ls hl hP hD hS hg
      have hg : g_X6_passFigures_5b N_X_text_cells v_X_reader_first v_X_text_width v_X_text_size a_X_text_cells (g_X6_passFigures_5 N_X_text_cells v_X_reader_first v_X_text_width v_X_text_size a_X_text_cells n) v_X_reader_place v_X_reader_token v_X_reader_number = some o := hg
      refine lv_aload_n hx hb dX6_passFigures_5 rfl (lv_at hl 0 rfl) ?_
      refine zget (C := RX6) (T := TX6) (N := 7) S hK hP 0 rfl rfl 3 (Nat.le_of_ble_eq_true rfl) zf_6 zw_344 rfl dX6_passFigures_6 ?_
      refine lv_aload_n hx hb dX6_passFigures_9 rfl (lv_at hl 0 rfl) ?_
      refine zget (C := RX6) (T := TX6) (N := 7) S hK hP 0 rfl rfl 0 (Nat.le_of_ble_eq_true rfl) zf_6 zw_127 rfl dX6_passFigures_10 ?_
      obtain ⟨v1, hc2, hg⟩ := zbd hg
      refine zcallV (rest := [.int v_X_reader_place]) S (c_X7_size l D cI cJ cZ cA ga q_X_text (.int v_X_text_width) u_X_text_limit (.ref q_X_text_cells) v_X_text_size v1 hc2) (zgV zw_351 zw_180 zw_181 zw_32 zw_182) rfl hd_X7_size ⟨rfl, rfl⟩ ⟨Nat.le_of_ble_eq_true rfl, Nat.le_of_ble_eq_true rfl⟩ 1 7 rfl rfl rfl hl.1 rfl (Nat.le_of_ble_eq_true rfl) dX6_passFigures_13 hP hD hS hA hK hG (isC := [1]) rfl (by decide +kernel) rfl ⟨Nat.zero_le _, Nat.zero_le _⟩ (pl := [none, some 0, none]) (nw := 3) rfl (by decide +kernel) (w2 := (ws_X6_passFigures cI cJ cZ cA q_X_reader q_X_text q_X_text_cells u_X_reader_state u_X_reader_numbers u_X_text_limit N_X_text_cells v_X_reader_place v_X_reader_token v_X_reader_first v_X_reader_number v_X_text_width v_X_text_size a_X_text_cells)) rfl (st1 := [.int v1, .int v_X_reader_place]) rfl (fun H locs hP hD hS => ?_)
      refine lv_icmp_ge (tgt := 90) hx hb dX6_passFigures_16 (by decide) (fun h16 => ?_) (fun h16 => ?_)
      · have hg := zp hg h16
        exact B90 v_X_reader_place v_X_reader_token v_X_reader_number _ _ _ hl hP hD hS hg
      · have hg := zn hg h16
        refine lv_aload_n hx hb dX6_passFigures_19 rfl (lv_at hl 0 rfl) ?_
        refine zget (C := RX6) (T := TX6) (N := 7) S hK hP 0 rfl rfl 0 (Nat.le_of_ble_eq_true rfl) zf_6 zw_127 rfl dX6_passFigures_20 ?_
        refine lv_aload_n hx hb dX6_passFigures_23 rfl (lv_at hl 0 rfl) ?_
        refine zget (C := RX6) (T := TX6) (N := 7) S hK hP 0 rfl rfl 3 (Nat.le_of_ble_eq_true rfl) zf_6 zw_344 rfl dX6_passFigures_24 ?_
        refine lv_iconst (v := 0) hx hb dX6_passFigures_27 (by decide) ?_
        obtain ⟨v3, hc4, hg⟩ := zbd hg
        refine zcallV (rest := []) S (c_X7_at l D cI cJ cZ cA ga q_X_text q_X_text_cells u_X_text_limit N_X_text_cells v_X_text_width v_X_text_size a_X_text_cells v_X_reader_place 0 v3 hc4) (zgV zw_352 zw_353 zw_354 zw_32 zw_355) rfl hd_X7_at ⟨rfl, rfl⟩ ⟨Nat.le_of_ble_eq_true rfl, Nat.le_of_ble_eq_true rfl⟩ 1 7 rfl rfl rfl hl.1 rfl (Nat.le_of_ble_eq_true rfl) dX6_passFigures_28 hP hD hS hA hK hG (isC := [1, 2]) rfl (by decide +kernel) rfl ⟨Nat.zero_le _, Nat.zero_le _⟩ (pl := [none, some 0, some 1]) (nw := 3) rfl (by decide +kernel) (w2 := (ws_X6_passFigures cI cJ cZ cA q_X_reader q_X_text q_X_text_cells u_X_reader_state u_X_reader_numbers u_X_text_limit N_X_text_cells v_X_reader_place v_X_reader_token v_X_reader_first v_X_reader_number v_X_text_width v_X_text_size a_X_text_cells)) rfl (st1 := [.int v3]) rfl (fun H locs hP hD hS => ?_)
        obtain ⟨v5, hc6, hg⟩ := zbd hg
        refine zcallS (rest := []) S (c_X6_isFigure l D cI cJ cZ cA ga v3 v5 hc6) (zgS zw_363 zw_364 zw_41 zw_365) rfl hd_X6_isFigure ⟨rfl, rfl⟩ ⟨Nat.le_of_ble_eq_true rfl, Nat.le_of_ble_eq_true rfl⟩ rfl hl.1 rfl (Nat.le_of_ble_eq_true rfl) dX6_passFigures_31 hP hD hS hA hK hG (isC := []) rfl (by decide +kernel) rfl ⟨Nat.zero_le _, Nat.zero_le _⟩ (pl := [none, none, none]) (nw := 3) rfl (by decide +kernel) (w2 := (ws_X6_passFigures cI cJ cZ cA q_X_reader q_X_text q_X_text_cells u_X_reader_state u_X_reader_numbers u_X_text_limit N_X_text_cells v_X_reader_place v_X_reader_token v_X_reader_first v_X_reader_number v_X_text_width v_X_text_size a_X_text_cells)) rfl (st1 := [.int v5]) rfl (fun H locs hP hD hS => ?_)
        refine lv_if_eq (tgt := 90) hx hb dX6_passFigures_34 (by decide) (fun h34 => ?_) (fun h34 => ?_)
        · have hg := zp hg h34
          exact B90 v_X_reader_place v_X_reader_token v_X_reader_number _ _ _ hl hP hD hS hg
        · have hg := zn hg h34
          refine lv_aload_n hx hb dX6_passFigures_37 rfl (lv_at hl 0 rfl) ?_
          refine zget (C := RX6) (T := TX6) (N := 7) S hK hP 0 rfl rfl 3 (Nat.le_of_ble_eq_true rfl) zf_6 zw_344 rfl dX6_passFigures_38 ?_
          refine lv_aload_n hx hb dX6_passFigures_41 rfl (lv_at hl 0 rfl) ?_
          refine zget (C := RX6) (T := TX6) (N := 7) S hK hP 0 rfl rfl 5 (Nat.le_of_ble_eq_true rfl) zf_6 zw_346 rfl dX6_passFigures_42 ?_
          refine lv_isub hx hb dX6_passFigures_45 ?_
          refine lv_iconst (v := 3) hx hb dX6_passFigures_46 (by decide) ?_
          refine lv_icmp_ge (tgt := 77) hx hb dX6_passFigures_47 (by decide) (fun h47 => ?_) (fun h47 => ?_)
          · have hg := zp hg h47
            exact B77 (g_X6_passFigures_5 N_X_text_cells v_X_reader_first v_X_text_width v_X_text_size a_X_text_cells n) ih v_X_reader_place v_X_reader_token v_X_reader_number _ _ _ hl hP hD hS hg
          · have hg := zn hg h47
            refine lv_aload_n hx hb dX6_passFigures_50 rfl (lv_at hl 0 rfl) ?_
            refine lv_bipush (v := 10) hx hb dX6_passFigures_51 (by decide) ?_
            refine lv_aload_n hx hb dX6_passFigures_53 rfl (lv_at hl 0 rfl) ?_
            refine zget (C := RX6) (T := TX6) (N := 7) S hK hP 0 rfl rfl 6 (Nat.le_of_ble_eq_true rfl) zf_6 zw_370 rfl dX6_passFigures_54 ?_
            refine lv_imul hx hb dX6_passFigures_57 ?_
            refine lv_aload_n hx hb dX6_passFigures_58 rfl (lv_at hl 0 rfl) ?_
            refine zget (C := RX6) (T := TX6) (N := 7) S hK hP 0 rfl rfl 0 (Nat.le_of_ble_eq_true rfl) zf_6 zw_127 rfl dX6_passFigures_59 ?_
            refine lv_aload_n hx hb dX6_passFigures_62 rfl (lv_at hl 0 rfl) ?_
            refine zget (C := RX6) (T := TX6) (N := 7) S hK hP 0 rfl rfl 3 (Nat.le_of_ble_eq_true rfl) zf_6 zw_344 rfl dX6_passFigures_63 ?_
            refine lv_iconst (v := 0) hx hb dX6_passFigures_66 (by decide) ?_
            obtain ⟨v7, hc8, hg⟩ := zbd hg
            refine zcallV (rest := [.int (10 * v_X_reader_number), .ref q_X_reader]) S (c_X7_at l D cI cJ cZ cA ga q_X_text q_X_text_cells u_X_text_limit N_X_text_cells v_X_text_width v_X_text_size a_X_text_cells v_X_reader_place 0 v7 hc8) (zgV zw_352 zw_353 zw_354 zw_32 zw_355) rfl hd_X7_at ⟨rfl, rfl⟩ ⟨Nat.le_of_ble_eq_true rfl, Nat.le_of_ble_eq_true rfl⟩ 1 7 rfl rfl rfl hl.1 rfl (Nat.le_of_ble_eq_true rfl) dX6_passFigures_67 hP hD hS hA hK hG (isC := [1, 2]) rfl (by decide +kernel) rfl ⟨Nat.zero_le _, Nat.zero_le _⟩ (pl := [none, some 0, some 1]) (nw := 3) rfl (by decide +kernel) (w2 := (ws_X6_passFigures cI cJ cZ cA q_X_reader q_X_text q_X_text_cells u_X_reader_state u_X_reader_numbers u_X_text_limit N_X_text_cells v_X_reader_place v_X_reader_token v_X_reader_first v_X_reader_number v_X_text_width v_X_text_size a_X_text_cells)) rfl (st1 := [.int v7, .int (10 * v_X_reader_number), .ref q_X_reader]) rfl (fun H locs hP hD hS => ?_)
            refine lv_iadd hx hb dX6_passFigures_70 ?_
            refine lv_bipush (v := 48) hx hb dX6_passFigures_71 (by decide) ?_
            refine lv_isub hx hb dX6_passFigures_73 ?_
            refine zputf (C := RX6) (T := TX6) (N := 7) (ty := .int) S hK hP hD hS 0 rfl rfl 6 (Nat.le_of_ble_eq_true rfl) zf_6 tyX6 tyX6_ok nmX6 zw_370 rfl (by decide +kernel) rfl rfl (Nat.le_of_ble_eq_true rfl) dX6_passFigures_74 (w2 := (ws_X6_passFigures cI cJ cZ cA q_X_reader q_X_text q_X_text_cells u_X_reader_state u_X_reader_numbers u_X_text_limit N_X_text_cells v_X_reader_place v_X_reader_token v_X_reader_first (((10 * v_X_reader_number) + v7) - 48) v_X_text_width v_X_text_size a_X_text_cells)) rfl (fun H locs hP hD hS => ?_)
            exact B77 (g_X6_passFigures_5 N_X_text_cells v_X_reader_first v_X_text_width v_X_text_size a_X_text_cells n) ih v_X_reader_place v_X_reader_token (((10 * v_X_reader_number) + v7) - 48) _ _ _ hl hP hD hS hg
  refine lv_aload_n hx hb dX6_passFigures_0 rfl (lv_at hl 0 rfl) ?_
  refine lv_iconst (v := 0) hx hb dX6_passFigures_1 (by decide) ?_
  refine zputf (C := RX6) (T := TX6) (N := 7) (ty := .int) S hK hP hD hS 0 rfl rfl 6 (Nat.le_of_ble_eq_true rfl) zf_6 tyX6 tyX6_ok nmX6 zw_370 rfl (by decide +kernel) rfl rfl (Nat.le_of_ble_eq_true rfl) dX6_passFigures_2 (w2 := (ws_X6_passFigures cI cJ cZ cA q_X_reader q_X_text q_X_text_cells u_X_reader_state u_X_reader_numbers u_X_text_limit N_X_text_cells v_X_reader_place v_X_reader_token v_X_reader_first 0 v_X_text_width v_X_text_size a_X_text_cells)) rfl (fun H locs hP hD hS => ?_)
  exact B5 zF v_X_reader_place v_X_reader_token 0 _ _ _ hl hP hD hS hg

/-! SpokenClock$Reader.passWord()V -/
abbrev ws_X6_passWord (cI cJ cZ cA : ClassId) (q_X_reader q_X_text q_X_text_cells : Nat) (u_X_reader_state : Value) (u_X_reader_numbers : Value) (u_X_reader_first : Value) (u_X_reader_number : Value) (u_X_text_limit : Value) (N_X_text_cells : Nat) (v_X_reader_place : Int32) (v_X_reader_token : Int32) (v_X_text_width : Int32) (v_X_text_size : Int32) (a_X_text_cells : Nat → Int32) : va_W := [(q_X_reader, .inr (6, [.ref q_X_text, u_X_reader_state, u_X_reader_numbers, .int v_X_reader_place, .int v_X_reader_token, u_X_reader_first, u_X_reader_number])), (q_X_text, .inr (7, [.int v_X_text_width, u_X_text_limit, .ref q_X_text_cells, .int v_X_text_size])), (q_X_text_cells, .inl (cI, N_X_text_cells, .inl a_X_text_cells))]
abbrev rm_X6_passWord : Room := { frames := 1, cells := 0, slots := 0, locals := 22 }
def g_X6_passWord_45 (N_X_text_cells : Nat) (v_X_text_width : Int32) (v_X_text_size : Int32) (a_X_text_cells : Nat → Int32) (v_X_reader_place : Int32) (v_X_reader_token : Int32) : Option (Int32 × Int32) :=
  some (v_X_reader_place, 1)
def g_X6_passWord_0b (N_X_text_cells : Nat) (v_X_text_width : Int32) (v_X_text_size : Int32) (a_X_text_cells : Nat → Int32) (k0 : Int32 → Int32 → Option (Int32 × Int32)) (v_X_reader_place : Int32) (v_X_reader_token : Int32) : Option (Int32 × Int32) :=
  (g_X7_size v_X_text_size).bind fun v1 =>
  if v1 ≤ v_X_reader_place then (
    g_X6_passWord_45 N_X_text_cells v_X_text_width v_X_text_size a_X_text_cells v_X_reader_place v_X_reader_token
  ) else (
    (g_X7_at N_X_text_cells v_X_text_width v_X_text_size a_X_text_cells v_X_reader_place 0).bind fun v3 =>
    (g_X6_isLetter v3).bind fun v5 =>
    if v5 = 0 then (
      g_X6_passWord_45 N_X_text_cells v_X_text_width v_X_text_size a_X_text_cells v_X_reader_place v_X_reader_token
    ) else (
      k0 (v_X_reader_place + 1) v_X_reader_token
    )
  )
def g_X6_passWord_0 (N_X_text_cells : Nat) (v_X_text_width : Int32) (v_X_text_size : Int32) (a_X_text_cells : Nat → Int32) : Nat → Int32 → Int32 → Option (Int32 × Int32)
  | 0, _, _ => none
  | n + 1, v_X_reader_place, v_X_reader_token => g_X6_passWord_0b N_X_text_cells v_X_text_width v_X_text_size a_X_text_cells (g_X6_passWord_0 N_X_text_cells v_X_text_width v_X_text_size a_X_text_cells n) v_X_reader_place v_X_reader_token
def g_X6_passWord (N_X_text_cells : Nat) (v_X_text_width : Int32) (v_X_text_size : Int32) (a_X_text_cells : Nat → Int32) (v_X_reader_place : Int32) (v_X_reader_token : Int32) : Option (Int32 × Int32) :=
  g_X6_passWord_0 N_X_text_cells v_X_text_width v_X_text_size a_X_text_cells zF v_X_reader_place v_X_reader_token
theorem hd_X6_passWord : yX6_passWord.cls = RX6 ∧ yX6_passWord.cls ≠ "java/lang/invoke/MethodHandle" ∧ yX6_passWord.cls ≠ "java/lang/invoke/VarHandle" ∧ (parseMethodDescriptor yX6_passWord.desc).map (fun d => d.parameters.length) = some 0 := by decide +kernel
set_option maxHeartbeats 4000000 in
set_option maxRecDepth 100000 in
theorem c_X6_passWord (l : Launch) (D : va_G) (cI cJ cZ cA : ClassId) (ga : Nat → Nat) (q_X_reader q_X_text q_X_text_cells : Nat) (u_X_reader_state : Value) (u_X_reader_numbers : Value) (u_X_reader_first : Value) (u_X_reader_number : Value) (u_X_text_limit : Value) (N_X_text_cells : Nat) (v_X_reader_place : Int32) (v_X_reader_token : Int32) (v_X_text_width : Int32) (v_X_text_size : Int32) (a_X_text_cells : Nat → Int32) (o : Int32 × Int32) (hg : g_X6_passWord N_X_text_cells v_X_text_width v_X_text_size a_X_text_cells v_X_reader_place v_X_reader_token = some o) : zM l yX6_passWord (Cond.code yX6_passWord cX6_passWord 1 none :: wsL_law) rm_X6_passWord D (zTy cI cJ cZ cA) ga [.ref q_X_reader] (ws_X6_passWord cI cJ cZ cA q_X_reader q_X_text q_X_text_cells u_X_reader_state u_X_reader_numbers u_X_reader_first u_X_reader_number u_X_text_limit N_X_text_cells v_X_reader_place v_X_reader_token v_X_text_width v_X_text_size a_X_text_cells) (ws_X6_passWord cI cJ cZ cA q_X_reader q_X_text q_X_text_cells u_X_reader_state u_X_reader_numbers u_X_reader_first u_X_reader_number u_X_text_limit N_X_text_cells o.1 o.2 v_X_text_width v_X_text_size a_X_text_cells) none := by
  refine zenterV (own := RX6) (by decide) rfl rfl (Nat.le_of_ble_eq_true rfl) ?_
  intro p e s m args below meth c A ls Q S hA hK hG hl hP hD hS hret0
  have hx := S.1
  have hb := S.2.1
  have ht : ∀ w, w ∈ wsL_law → w.before args s = true := fun w h => S.2.2.2.2 w (List.mem_cons_of_mem _ h)
  have hret : ∀ (v_X_reader_place : Int32) (v_X_reader_token : Int32), (some (v_X_reader_place, v_X_reader_token) : Option (Int32 × Int32)) = some o → ∀ (H : Heap) (locs : List Loc) (pc : Nat) (ls : Array Slot), va_P D vwCl (ws_X6_passWord cI cJ cZ cA q_X_reader q_X_text q_X_text_cells u_X_reader_state u_X_reader_numbers u_X_reader_first u_X_reader_number u_X_text_limit N_X_text_cells v_X_reader_place v_X_reader_token v_X_text_width v_X_text_size a_X_text_cells) H → va_S A s.heap H locs → decode cX6_passWord pc = .ok (.return_, 1) → W p l e rm_X6_passWord s m args below meth c H locs 0 0 Q (F0 m pc ls []) := by
    intro v_X_reader_place v_X_reader_token he; cases he; exact hret0
  have hl : lv_has ls 1 [(0, .ref q_X_reader)] := hl
  have B45 : ∀ (v_X_reader_place : Int32) (v_X_reader_token : Int32) (H : Heap) (locs : List Loc) (ls : Array Slot) (hl : lv_has ls 1 [(0, .ref q_X_reader)]) (hP : va_P D vwCl (ws_X6_passWord cI cJ cZ cA q_X_reader q_X_text q_X_text_cells u_X_reader_state u_X_reader_numbers u_X_reader_first u_X_reader_number u_X_text_limit N_X_text_cells v_X_reader_place v_X_reader_token v_X_text_width v_X_text_size a_X_text_cells) H) (hD : va_D A (ws_X6_passWord cI cJ cZ cA q_X_reader q_X_text q_X_text_cells u_X_reader_state u_X_reader_numbers u_X_reader_first u_X_reader_number u_X_text_limit N_X_text_cells v_X_reader_place v_X_reader_token v_X_text_width v_X_text_size a_X_text_cells)) (hS : va_S A s.heap H locs), g_X6_passWord_45 N_X_text_cells v_X_text_width v_X_text_size a_X_text_cells v_X_reader_place v_X_reader_token = some o → W p l e rm_X6_passWord s m args below meth c H locs 0 0 Q (F0 m 45 ls []) := by
    intro  v_X_reader_place v_X_reader_token H locs ls hl hP hD hS hg
    refine lv_aload_n hx hb dX6_passWord_45 rfl (lv_at hl 0 rfl) ?_
    refine lv_iconst (v := 1) hx hb dX6_passWord_46 (by decide) ?_
    refine zputf (C := RX6) (T := TX6) (N := 7) (ty := .int) S hK hP hD hS 0 rfl rfl 4 (Nat.le_of_ble_eq_true rfl) zf_6 tyX6 tyX6_ok nmX6 zw_345 rfl (by decide +kernel) rfl rfl (Nat.le_of_ble_eq_true rfl) dX6_passWord_47 (w2 := (ws_X6_passWord cI cJ cZ cA q_X_reader q_X_text q_X_text_cells u_X_reader_state u_X_reader_numbers u_X_reader_first u_X_reader_number u_X_text_limit N_X_text_cells v_X_reader_place 1 v_X_text_width v_X_text_size a_X_text_cells)) rfl (fun H locs hP hD hS => ?_)
    exact hret v_X_reader_place 1 hg _ _ _ _ hP hS dX6_passWord_50
  have B0 : ∀  (n : Nat) (v_X_reader_place : Int32) (v_X_reader_token : Int32) (H : Heap) (locs : List Loc) (ls : Array Slot) (hl : lv_has ls 1 [(0, .ref q_X_reader)]) (hP : va_P D vwCl (ws_X6_passWord cI cJ cZ cA q_X_reader q_X_text q_X_text_cells u_X_reader_state u_X_reader_numbers u_X_reader_first u_X_reader_number u_X_text_limit N_X_text_cells v_X_reader_place v_X_reader_token v_X_text_width v_X_text_size a_X_text_cells) H) (hD : va_D A (ws_X6_passWord cI cJ cZ cA q_X_reader q_X_text q_X_text_cells u_X_reader_state u_X_reader_numbers u_X_reader_first u_X_reader_number u_X_text_limit N_X_text_cells v_X_reader_place v_X_reader_token v_X_text_width v_X_text_size a_X_text_cells)) (hS : va_S A s.heap H locs), g_X6_passWord_0 N_X_text_cells v_X_text_width v_X_text_size a_X_text_cells n v_X_reader_place v_X_reader_token = some o → W p l e rm_X6_passWord s m args below meth c H locs 0 0 Q (F0 m 0 ls []) := by
    intro  n
    induction n with
    | zero => intro v_X_reader_place v_X_reader_token H locs ls hl hP hD hS hg; exact nomatch (show (none : Option (Int32 × Int32)) = some o from hg)
    | succ n ih =>
      intro v_X_reader_place v_X_reader_token H locs ls hl hP hD hS hg
      have hg : g_X6_passWord_0b N_X_text_cells v_X_text_width v_X_text_size a_X_text_cells (g_X6_passWord_0 N_X_text_cells v_X_text_width v_X_text_size a_X_text_cells n) v_X_reader_place v_X_reader_token = some o := hg
      refine lv_aload_n hx hb dX6_passWord_0 rfl (lv_at hl 0 rfl) ?_
      refine zget (C := RX6) (T := TX6) (N := 7) S hK hP 0 rfl rfl 3 (Nat.le_of_ble_eq_true rfl) zf_6 zw_344 rfl dX6_passWord_1 ?_
      refine lv_aload_n hx hb dX6_passWord_4 rfl (lv_at hl 0 rfl) ?_
      refine zget (C := RX6) (T := TX6) (N := 7) S hK hP 0 rfl rfl 0 (Nat.le_of_ble_eq_true rfl) zf_6 zw_127 rfl dX6_passWord_5 ?_
      obtain ⟨v1, hc2, hg⟩ := zbd hg
      refine zcallV (rest := [.int v_X_reader_place]) S (c_X7_size l D cI cJ cZ cA ga q_X_text (.int v_X_text_width) u_X_text_limit (.ref q_X_text_cells) v_X_text_size v1 hc2) (zgV zw_351 zw_180 zw_181 zw_32 zw_182) rfl hd_X7_size ⟨rfl, rfl⟩ ⟨Nat.le_of_ble_eq_true rfl, Nat.le_of_ble_eq_true rfl⟩ 1 7 rfl rfl rfl hl.1 rfl (Nat.le_of_ble_eq_true rfl) dX6_passWord_8 hP hD hS hA hK hG (isC := [1]) rfl (by decide +kernel) rfl ⟨Nat.zero_le _, Nat.zero_le _⟩ (pl := [none, some 0, none]) (nw := 3) rfl (by decide +kernel) (w2 := (ws_X6_passWord cI cJ cZ cA q_X_reader q_X_text q_X_text_cells u_X_reader_state u_X_reader_numbers u_X_reader_first u_X_reader_number u_X_text_limit N_X_text_cells v_X_reader_place v_X_reader_token v_X_text_width v_X_text_size a_X_text_cells)) rfl (st1 := [.int v1, .int v_X_reader_place]) rfl (fun H locs hP hD hS => ?_)
      refine lv_icmp_ge (tgt := 45) hx hb dX6_passWord_11 (by decide) (fun h11 => ?_) (fun h11 => ?_)
      · have hg := zp hg h11
        exact B45 v_X_reader_place v_X_reader_token _ _ _ hl hP hD hS hg
      · have hg := zn hg h11
        refine lv_aload_n hx hb dX6_passWord_14 rfl (lv_at hl 0 rfl) ?_
        refine zget (C := RX6) (T := TX6) (N := 7) S hK hP 0 rfl rfl 0 (Nat.le_of_ble_eq_true rfl) zf_6 zw_127 rfl dX6_passWord_15 ?_
        refine lv_aload_n hx hb dX6_passWord_18 rfl (lv_at hl 0 rfl) ?_
        refine zget (C := RX6) (T := TX6) (N := 7) S hK hP 0 rfl rfl 3 (Nat.le_of_ble_eq_true rfl) zf_6 zw_344 rfl dX6_passWord_19 ?_
        refine lv_iconst (v := 0) hx hb dX6_passWord_22 (by decide) ?_
        obtain ⟨v3, hc4, hg⟩ := zbd hg
        refine zcallV (rest := []) S (c_X7_at l D cI cJ cZ cA ga q_X_text q_X_text_cells u_X_text_limit N_X_text_cells v_X_text_width v_X_text_size a_X_text_cells v_X_reader_place 0 v3 hc4) (zgV zw_352 zw_353 zw_354 zw_32 zw_355) rfl hd_X7_at ⟨rfl, rfl⟩ ⟨Nat.le_of_ble_eq_true rfl, Nat.le_of_ble_eq_true rfl⟩ 1 7 rfl rfl rfl hl.1 rfl (Nat.le_of_ble_eq_true rfl) dX6_passWord_23 hP hD hS hA hK hG (isC := [1, 2]) rfl (by decide +kernel) rfl ⟨Nat.zero_le _, Nat.zero_le _⟩ (pl := [none, some 0, some 1]) (nw := 3) rfl (by decide +kernel) (w2 := (ws_X6_passWord cI cJ cZ cA q_X_reader q_X_text q_X_text_cells u_X_reader_state u_X_reader_numbers u_X_reader_first u_X_reader_number u_X_text_limit N_X_text_cells v_X_reader_place v_X_reader_token v_X_text_width v_X_text_size a_X_text_cells)) rfl (st1 := [.int v3]) rfl (fun H locs hP hD hS => ?_)
        obtain ⟨v5, hc6, hg⟩ := zbd hg
        refine zcallS (rest := []) S (c_X6_isLetter l D cI cJ cZ cA ga v3 v5 hc6) (zgS zw_356 zw_357 zw_41 zw_358) rfl hd_X6_isLetter ⟨rfl, rfl⟩ ⟨Nat.le_of_ble_eq_true rfl, Nat.le_of_ble_eq_true rfl⟩ rfl hl.1 rfl (Nat.le_of_ble_eq_true rfl) dX6_passWord_26 hP hD hS hA hK hG (isC := []) rfl (by decide +kernel) rfl ⟨Nat.zero_le _, Nat.zero_le _⟩ (pl := [none, none, none]) (nw := 3) rfl (by decide +kernel) (w2 := (ws_X6_passWord cI cJ cZ cA q_X_reader q_X_text q_X_text_cells u_X_reader_state u_X_reader_numbers u_X_reader_first u_X_reader_number u_X_text_limit N_X_text_cells v_X_reader_place v_X_reader_token v_X_text_width v_X_text_size a_X_text_cells)) rfl (st1 := [.int v5]) rfl (fun H locs hP hD hS => ?_)
        refine lv_if_eq (tgt := 45) hx hb dX6_passWord_29 (by decide) (fun h29 => ?_) (fun h29 => ?_)
        · have hg := zp hg h29
          exact B45 v_X_reader_place v_X_reader_token _ _ _ hl hP hD hS hg
        · have hg := zn hg h29
          refine lv_aload_n hx hb dX6_passWord_32 rfl (lv_at hl 0 rfl) ?_
          refine lv_dup hx hb dX6_passWord_33 rfl ?_
          refine zget (C := RX6) (T := TX6) (N := 7) S hK hP 0 rfl rfl 3 (Nat.le_of_ble_eq_true rfl) zf_6 zw_344 rfl dX6_passWord_34 ?_
          refine lv_iconst (v := 1) hx hb dX6_passWord_37 (by decide) ?_
          refine lv_iadd hx hb dX6_passWord_38 ?_
          refine zputf (C := RX6) (T := TX6) (N := 7) (ty := .int) S hK hP hD hS 0 rfl rfl 3 (Nat.le_of_ble_eq_true rfl) zf_6 tyX6 tyX6_ok nmX6 zw_344 rfl (by decide +kernel) rfl rfl (Nat.le_of_ble_eq_true rfl) dX6_passWord_39 (w2 := (ws_X6_passWord cI cJ cZ cA q_X_reader q_X_text q_X_text_cells u_X_reader_state u_X_reader_numbers u_X_reader_first u_X_reader_number u_X_text_limit N_X_text_cells (v_X_reader_place + 1) v_X_reader_token v_X_text_width v_X_text_size a_X_text_cells)) rfl (fun H locs hP hD hS => ?_)
          refine lv_goto (tgt := 0) hx hb dX6_passWord_42 (by decide) ?_
          exact ih (v_X_reader_place + 1) v_X_reader_token _ _ _ hl hP hD hS hg
  exact B0 zF v_X_reader_place v_X_reader_token _ _ _ hl hP hD hS hg

/-! SpokenClock$Reader.advance()V -/
abbrev ws_X6_advance (cI cJ cZ cA : ClassId) (q_X_reader q_X_text q_X_text_cells : Nat) (u_X_reader_state : Value) (u_X_reader_numbers : Value) (u_X_text_limit : Value) (N_X_text_cells : Nat) (v_X_reader_place : Int32) (v_X_reader_token : Int32) (v_X_reader_first : Int32) (v_X_reader_number : Int32) (v_X_text_width : Int32) (v_X_text_size : Int32) (a_X_text_cells : Nat → Int32) : va_W := [(q_X_reader, .inr (6, [.ref q_X_text, u_X_reader_state, u_X_reader_numbers, .int v_X_reader_place, .int v_X_reader_token, .int v_X_reader_first, .int v_X_reader_number])), (q_X_text, .inr (7, [.int v_X_text_width, u_X_text_limit, .ref q_X_text_cells, .int v_X_text_size])), (q_X_text_cells, .inl (cI, N_X_text_cells, .inl a_X_text_cells))]
abbrev rm_X6_advance : Room := { frames := 2, cells := 0, slots := 0, locals := 42 }
def g_X6_advance_135 (N_X_text_cells : Nat) (v_X_text_width : Int32) (v_X_text_size : Int32) (a_X_text_cells : Nat → Int32) (t1 : Int32) (v_X_reader_place : Int32) (v_X_reader_token : Int32) (v_X_reader_first : Int32) (v_X_reader_number : Int32) : Option (Int32 × Int32 × Int32 × Int32) :=
  some (v_X_reader_place + 1, t1, v_X_reader_first, v_X_reader_number)
def g_X6_advance_44 (N_X_text_cells : Nat) (v_X_text_width : Int32) (v_X_text_size : Int32) (a_X_text_cells : Nat → Int32) (v_X_reader_place : Int32) (v_X_reader_token : Int32) (v_X_reader_first : Int32) (v_X_reader_number : Int32) : Option (Int32 × Int32 × Int32 × Int32) :=
  (g_X7_size v_X_text_size).bind fun v3 =>
  if v_X_reader_place < v3 then (
    (g_X7_at N_X_text_cells v_X_text_width v_X_text_size a_X_text_cells v_X_reader_place 0).bind fun v5 =>
    (g_X6_isLetter v5).bind fun v7 =>
    if v7 = 0 then (
      (g_X6_isFigure v5).bind fun v9 =>
      if v9 = 0 then (
        if v5 = 45 then (
          g_X6_advance_135 N_X_text_cells v_X_text_width v_X_text_size a_X_text_cells 3 v_X_reader_place v_X_reader_token v_X_reader_place v_X_reader_number
        ) else (
          if v5 = 59 then (
            g_X6_advance_135 N_X_text_cells v_X_text_width v_X_text_size a_X_text_cells 4 v_X_reader_place v_X_reader_token v_X_reader_place v_X_reader_number
          ) else (
            g_X6_advance_135 N_X_text_cells v_X_text_width v_X_text_size a_X_text_cells 5 v_X_reader_place v_X_reader_token v_X_reader_place v_X_reader_number
          )
        )
      ) else (
        (g_X6_passFigures N_X_text_cells v_X_reader_place v_X_text_width v_X_text_size a_X_text_cells v_X_reader_place v_X_reader_token v_X_reader_number).bind fun v11 =>
        some (v11.1, v11.2.1, v_X_reader_place, v11.2.2)
      )
    ) else (
      (g_X6_passWord N_X_text_cells v_X_text_width v_X_text_size a_X_text_cells v_X_reader_place v_X_reader_token).bind fun v13 =>
      some (v13.1, v13.2, v_X_reader_place, v_X_reader_number)
    )
  ) else (
    some (v_X_reader_place, 0, v_X_reader_place, v_X_reader_number)
  )
def g_X6_advance_0b (N_X_text_cells : Nat) (v_X_text_width : Int32) (v_X_text_size : Int32) (a_X_text_cells : Nat → Int32) (k0 : Int32 → Int32 → Int32 → Int32 → Option (Int32 × Int32 × Int32 × Int32)) (v_X_reader_place : Int32) (v_X_reader_token : Int32) (v_X_reader_first : Int32) (v_X_reader_number : Int32) : Option (Int32 × Int32 × Int32 × Int32) :=
  (g_X7_size v_X_text_size).bind fun v1 =>
  if v1 ≤ v_X_reader_place then (
    g_X6_advance_44 N_X_text_cells v_X_text_width v_X_text_size a_X_text_cells v_X_reader_place v_X_reader_token v_X_reader_first v_X_reader_number
  ) else (
    (g_X7_at N_X_text_cells v_X_text_width v_X_text_size a_X_text_cells v_X_reader_place 0).bind fun v15 =>
    if v15 = 32 then (
      k0 (v_X_reader_place + 1) v_X_reader_token v_X_reader_first v_X_reader_number
    ) else (
      g_X6_advance_44 N_X_text_cells v_X_text_width v_X_text_size a_X_text_cells v_X_reader_place v_X_reader_token v_X_reader_first v_X_reader_number
    )
  )
def g_X6_advance_0 (N_X_text_cells : Nat) (v_X_text_width : Int32) (v_X_text_size : Int32) (a_X_text_cells : Nat → Int32) : Nat → Int32 → Int32 → Int32 → Int32 → Option (Int32 × Int32 × Int32 × Int32)
  | 0, _, _, _, _ => none
  | n + 1, v_X_reader_place, v_X_reader_token, v_X_reader_first, v_X_reader_number => g_X6_advance_0b N_X_text_cells v_X_text_width v_X_text_size a_X_text_cells (g_X6_advance_0 N_X_text_cells v_X_text_width v_X_text_size a_X_text_cells n) v_X_reader_place v_X_reader_token v_X_reader_first v_X_reader_number
def g_X6_advance (N_X_text_cells : Nat) (v_X_text_width : Int32) (v_X_text_size : Int32) (a_X_text_cells : Nat → Int32) (v_X_reader_place : Int32) (v_X_reader_token : Int32) (v_X_reader_first : Int32) (v_X_reader_number : Int32) : Option (Int32 × Int32 × Int32 × Int32) :=
  g_X6_advance_0 N_X_text_cells v_X_text_width v_X_text_size a_X_text_cells zF v_X_reader_place v_X_reader_token v_X_reader_first v_X_reader_number
theorem hd_X6_advance : yX6_advance.cls = RX6 ∧ yX6_advance.cls ≠ "java/lang/invoke/MethodHandle" ∧ yX6_advance.cls ≠ "java/lang/invoke/VarHandle" ∧ (parseMethodDescriptor yX6_advance.desc).map (fun d => d.parameters.length) = some 0 := by decide +kernel
set_option maxHeartbeats 4000000 in
set_option maxRecDepth 100000 in
theorem c_X6_advance (l : Launch) (D : va_G) (cI cJ cZ cA : ClassId) (ga : Nat → Nat) (q_X_reader q_X_text q_X_text_cells : Nat) (u_X_reader_state : Value) (u_X_reader_numbers : Value) (u_X_text_limit : Value) (N_X_text_cells : Nat) (v_X_reader_place : Int32) (v_X_reader_token : Int32) (v_X_reader_first : Int32) (v_X_reader_number : Int32) (v_X_text_width : Int32) (v_X_text_size : Int32) (a_X_text_cells : Nat → Int32) (o : Int32 × Int32 × Int32 × Int32) (hg : g_X6_advance N_X_text_cells v_X_text_width v_X_text_size a_X_text_cells v_X_reader_place v_X_reader_token v_X_reader_first v_X_reader_number = some o) : zM l yX6_advance (Cond.code yX6_advance cX6_advance 2 none :: wsL_law) rm_X6_advance D (zTy cI cJ cZ cA) ga [.ref q_X_reader] (ws_X6_advance cI cJ cZ cA q_X_reader q_X_text q_X_text_cells u_X_reader_state u_X_reader_numbers u_X_text_limit N_X_text_cells v_X_reader_place v_X_reader_token v_X_reader_first v_X_reader_number v_X_text_width v_X_text_size a_X_text_cells) (ws_X6_advance cI cJ cZ cA q_X_reader q_X_text q_X_text_cells u_X_reader_state u_X_reader_numbers u_X_text_limit N_X_text_cells o.1 o.2.1 o.2.2.1 o.2.2.2 v_X_text_width v_X_text_size a_X_text_cells) none := by
  refine zenterV (own := RX6) (by decide) rfl rfl (Nat.le_of_ble_eq_true rfl) ?_
  intro p e s m args below meth c A ls Q S hA hK hG hl hP hD hS hret0
  have hx := S.1
  have hb := S.2.1
  have ht : ∀ w, w ∈ wsL_law → w.before args s = true := fun w h => S.2.2.2.2 w (List.mem_cons_of_mem _ h)
  have hret : ∀ (v_X_reader_place : Int32) (v_X_reader_token : Int32) (v_X_reader_first : Int32) (v_X_reader_number : Int32), (some (v_X_reader_place, v_X_reader_token, v_X_reader_first, v_X_reader_number) : Option (Int32 × Int32 × Int32 × Int32)) = some o → ∀ (H : Heap) (locs : List Loc) (pc : Nat) (ls : Array Slot), va_P D vwCl (ws_X6_advance cI cJ cZ cA q_X_reader q_X_text q_X_text_cells u_X_reader_state u_X_reader_numbers u_X_text_limit N_X_text_cells v_X_reader_place v_X_reader_token v_X_reader_first v_X_reader_number v_X_text_width v_X_text_size a_X_text_cells) H → va_S A s.heap H locs → decode cX6_advance pc = .ok (.return_, 1) → W p l e rm_X6_advance s m args below meth c H locs 0 0 Q (F0 m pc ls []) := by
    intro v_X_reader_place v_X_reader_token v_X_reader_first v_X_reader_number he; cases he; exact hret0
  have hl : lv_has ls 2 [(0, .ref q_X_reader)] := hl
  have B135 : ∀ (t1 : Int32) (v_X_reader_place : Int32) (v_X_reader_token : Int32) (v_X_reader_first : Int32) (v_X_reader_number : Int32) (H : Heap) (locs : List Loc) (ls : Array Slot) (hl : lv_has ls 2 [(0, .ref q_X_reader)]) (hP : va_P D vwCl (ws_X6_advance cI cJ cZ cA q_X_reader q_X_text q_X_text_cells u_X_reader_state u_X_reader_numbers u_X_text_limit N_X_text_cells v_X_reader_place v_X_reader_token v_X_reader_first v_X_reader_number v_X_text_width v_X_text_size a_X_text_cells) H) (hD : va_D A (ws_X6_advance cI cJ cZ cA q_X_reader q_X_text q_X_text_cells u_X_reader_state u_X_reader_numbers u_X_text_limit N_X_text_cells v_X_reader_place v_X_reader_token v_X_reader_first v_X_reader_number v_X_text_width v_X_text_size a_X_text_cells)) (hS : va_S A s.heap H locs), g_X6_advance_135 N_X_text_cells v_X_text_width v_X_text_size a_X_text_cells t1 v_X_reader_place v_X_reader_token v_X_reader_first v_X_reader_number = some o → W p l e rm_X6_advance s m args below meth c H locs 0 0 Q (F0 m 135 ls [.int t1, .ref q_X_reader]) := by
    intro  t1 v_X_reader_place v_X_reader_token v_X_reader_first v_X_reader_number H locs ls hl hP hD hS hg
    refine zputf (C := RX6) (T := TX6) (N := 7) (ty := .int) S hK hP hD hS 0 rfl rfl 4 (Nat.le_of_ble_eq_true rfl) zf_6 tyX6 tyX6_ok nmX6 zw_345 rfl (by decide +kernel) rfl rfl (Nat.le_of_ble_eq_true rfl) dX6_advance_135 (w2 := (ws_X6_advance cI cJ cZ cA q_X_reader q_X_text q_X_text_cells u_X_reader_state u_X_reader_numbers u_X_text_limit N_X_text_cells v_X_reader_place t1 v_X_reader_first v_X_reader_number v_X_text_width v_X_text_size a_X_text_cells)) rfl (fun H locs hP hD hS => ?_)
    refine lv_aload_n hx hb dX6_advance_138 rfl (lv_at hl 0 rfl) ?_
    refine lv_dup hx hb dX6_advance_139 rfl ?_
    refine zget (C := RX6) (T := TX6) (N := 7) S hK hP 0 rfl rfl 3 (Nat.le_of_ble_eq_true rfl) zf_6 zw_344 rfl dX6_advance_140 ?_
    refine lv_iconst (v := 1) hx hb dX6_advance_143 (by decide) ?_
    refine lv_iadd hx hb dX6_advance_144 ?_
    refine zputf (C := RX6) (T := TX6) (N := 7) (ty := .int) S hK hP hD hS 0 rfl rfl 3 (Nat.le_of_ble_eq_true rfl) zf_6 tyX6 tyX6_ok nmX6 zw_344 rfl (by decide +kernel) rfl rfl (Nat.le_of_ble_eq_true rfl) dX6_advance_145 (w2 := (ws_X6_advance cI cJ cZ cA q_X_reader q_X_text q_X_text_cells u_X_reader_state u_X_reader_numbers u_X_text_limit N_X_text_cells (v_X_reader_place + 1) t1 v_X_reader_first v_X_reader_number v_X_text_width v_X_text_size a_X_text_cells)) rfl (fun H locs hP hD hS => ?_)
    exact hret (v_X_reader_place + 1) t1 v_X_reader_first v_X_reader_number hg _ _ _ _ hP hS dX6_advance_148
  have B44 : ∀ (v_X_reader_place : Int32) (v_X_reader_token : Int32) (v_X_reader_first : Int32) (v_X_reader_number : Int32) (H : Heap) (locs : List Loc) (ls : Array Slot) (hl : lv_has ls 2 [(0, .ref q_X_reader)]) (hP : va_P D vwCl (ws_X6_advance cI cJ cZ cA q_X_reader q_X_text q_X_text_cells u_X_reader_state u_X_reader_numbers u_X_text_limit N_X_text_cells v_X_reader_place v_X_reader_token v_X_reader_first v_X_reader_number v_X_text_width v_X_text_size a_X_text_cells) H) (hD : va_D A (ws_X6_advance cI cJ cZ cA q_X_reader q_X_text q_X_text_cells u_X_reader_state u_X_reader_numbers u_X_text_limit N_X_text_cells v_X_reader_place v_X_reader_token v_X_reader_first v_X_reader_number v_X_text_width v_X_text_size a_X_text_cells)) (hS : va_S A s.heap H locs), g_X6_advance_44 N_X_text_cells v_X_text_width v_X_text_size a_X_text_cells v_X_reader_place v_X_reader_token v_X_reader_first v_X_reader_number = some o → W p l e rm_X6_advance s m args below meth c H locs 0 0 Q (F0 m 44 ls []) := by
    intro  v_X_reader_place v_X_reader_token v_X_reader_first v_X_reader_number H locs ls hl hP hD hS hg
    refine lv_aload_n hx hb dX6_advance_44 rfl (lv_at hl 0 rfl) ?_
    refine lv_aload_n hx hb dX6_advance_45 rfl (lv_at hl 0 rfl) ?_
    refine zget (C := RX6) (T := TX6) (N := 7) S hK hP 0 rfl rfl 3 (Nat.le_of_ble_eq_true rfl) zf_6 zw_344 rfl dX6_advance_46 ?_
    refine zputf (C := RX6) (T := TX6) (N := 7) (ty := .int) S hK hP hD hS 0 rfl rfl 5 (Nat.le_of_ble_eq_true rfl) zf_6 tyX6 tyX6_ok nmX6 zw_346 rfl (by decide +kernel) rfl rfl (Nat.le_of_ble_eq_true rfl) dX6_advance_49 (w2 := (ws_X6_advance cI cJ cZ cA q_X_reader q_X_text q_X_text_cells u_X_reader_state u_X_reader_numbers u_X_text_limit N_X_text_cells v_X_reader_place v_X_reader_token v_X_reader_place v_X_reader_number v_X_text_width v_X_text_size a_X_text_cells)) rfl (fun H locs hP hD hS => ?_)
    refine lv_aload_n hx hb dX6_advance_52 rfl (lv_at hl 0 rfl) ?_
    refine zget (C := RX6) (T := TX6) (N := 7) S hK hP 0 rfl rfl 3 (Nat.le_of_ble_eq_true rfl) zf_6 zw_344 rfl dX6_advance_53 ?_
    refine lv_aload_n hx hb dX6_advance_56 rfl (lv_at hl 0 rfl) ?_
    refine zget (C := RX6) (T := TX6) (N := 7) S hK hP 0 rfl rfl 0 (Nat.le_of_ble_eq_true rfl) zf_6 zw_127 rfl dX6_advance_57 ?_
    obtain ⟨v3, hc4, hg⟩ := zbd hg
    refine zcallV (rest := [.int v_X_reader_place]) S (c_X7_size l D cI cJ cZ cA ga q_X_text (.int v_X_text_width) u_X_text_limit (.ref q_X_text_cells) v_X_text_size v3 hc4) (zgV zw_351 zw_180 zw_181 zw_32 zw_182) rfl hd_X7_size ⟨rfl, rfl⟩ ⟨Nat.le_of_ble_eq_true rfl, Nat.le_of_ble_eq_true rfl⟩ 1 7 rfl rfl rfl hl.1 rfl (Nat.le_of_ble_eq_true rfl) dX6_advance_60 hP hD hS hA hK hG (isC := [1]) rfl (by decide +kernel) rfl ⟨Nat.zero_le _, Nat.zero_le _⟩ (pl := [none, some 0, none]) (nw := 3) rfl (by decide +kernel) (w2 := (ws_X6_advance cI cJ cZ cA q_X_reader q_X_text q_X_text_cells u_X_reader_state u_X_reader_numbers u_X_text_limit N_X_text_cells v_X_reader_place v_X_reader_token v_X_reader_place v_X_reader_number v_X_text_width v_X_text_size a_X_text_cells)) rfl (st1 := [.int v3, .int v_X_reader_place]) rfl (fun H locs hP hD hS => ?_)
    refine lv_icmp_lt (tgt := 72) hx hb dX6_advance_63 (by decide) (fun h63 => ?_) (fun h63 => ?_)
    · have hg := zp hg h63
      refine lv_aload_n hx hb dX6_advance_72 rfl (lv_at hl 0 rfl) ?_
      refine zget (C := RX6) (T := TX6) (N := 7) S hK hP 0 rfl rfl 0 (Nat.le_of_ble_eq_true rfl) zf_6 zw_127 rfl dX6_advance_73 ?_
      refine lv_aload_n hx hb dX6_advance_76 rfl (lv_at hl 0 rfl) ?_
      refine zget (C := RX6) (T := TX6) (N := 7) S hK hP 0 rfl rfl 3 (Nat.le_of_ble_eq_true rfl) zf_6 zw_344 rfl dX6_advance_77 ?_
      refine lv_iconst (v := 0) hx hb dX6_advance_80 (by decide) ?_
      obtain ⟨v5, hc6, hg⟩ := zbd hg
      refine zcallV (rest := []) S (c_X7_at l D cI cJ cZ cA ga q_X_text q_X_text_cells u_X_text_limit N_X_text_cells v_X_text_width v_X_text_size a_X_text_cells v_X_reader_place 0 v5 hc6) (zgV zw_352 zw_353 zw_354 zw_32 zw_355) rfl hd_X7_at ⟨rfl, rfl⟩ ⟨Nat.le_of_ble_eq_true rfl, Nat.le_of_ble_eq_true rfl⟩ 1 7 rfl rfl rfl hl.1 rfl (Nat.le_of_ble_eq_true rfl) dX6_advance_81 hP hD hS hA hK hG (isC := [1, 2]) rfl (by decide +kernel) rfl ⟨Nat.zero_le _, Nat.zero_le _⟩ (pl := [none, some 0, some 1]) (nw := 3) rfl (by decide +kernel) (w2 := (ws_X6_advance cI cJ cZ cA q_X_reader q_X_text q_X_text_cells u_X_reader_state u_X_reader_numbers u_X_text_limit N_X_text_cells v_X_reader_place v_X_reader_token v_X_reader_place v_X_reader_number v_X_text_width v_X_text_size a_X_text_cells)) rfl (st1 := [.int v5]) rfl (fun H locs hP hD hS => ?_)
      refine lv_istore_n (lv' := [(1, .int v5), (0, .ref q_X_reader)]) hx hb dX6_advance_84 rfl hl (by decide) rfl (fun ls hl => ?_)
      refine lv_iload_n hx hb dX6_advance_85 rfl (lv_at hl 0 rfl) ?_
      obtain ⟨v7, hc8, hg⟩ := zbd hg
      refine zcallS (rest := []) S (c_X6_isLetter l D cI cJ cZ cA ga v5 v7 hc8) (zgS zw_356 zw_357 zw_41 zw_358) rfl hd_X6_isLetter ⟨rfl, rfl⟩ ⟨Nat.le_of_ble_eq_true rfl, Nat.le_of_ble_eq_true rfl⟩ rfl hl.1 rfl (Nat.le_of_ble_eq_true rfl) dX6_advance_86 hP hD hS hA hK hG (isC := []) rfl (by decide +kernel) rfl ⟨Nat.zero_le _, Nat.zero_le _⟩ (pl := [none, none, none]) (nw := 3) rfl (by decide +kernel) (w2 := (ws_X6_advance cI cJ cZ cA q_X_reader q_X_text q_X_text_cells u_X_reader_state u_X_reader_numbers u_X_text_limit N_X_text_cells v_X_reader_place v_X_reader_token v_X_reader_place v_X_reader_number v_X_text_width v_X_text_size a_X_text_cells)) rfl (st1 := [.int v7]) rfl (fun H locs hP hD hS => ?_)
      refine lv_if_eq (tgt := 99) hx hb dX6_advance_89 (by decide) (fun h89 => ?_) (fun h89 => ?_)
      · have hg := zp hg h89
        refine lv_iload_n hx hb dX6_advance_99 rfl (lv_at hl 0 rfl) ?_
        obtain ⟨v9, hc10, hg⟩ := zbd hg
        refine zcallS (rest := []) S (c_X6_isFigure l D cI cJ cZ cA ga v5 v9 hc10) (zgS zw_363 zw_364 zw_41 zw_365) rfl hd_X6_isFigure ⟨rfl, rfl⟩ ⟨Nat.le_of_ble_eq_true rfl, Nat.le_of_ble_eq_true rfl⟩ rfl hl.1 rfl (Nat.le_of_ble_eq_true rfl) dX6_advance_100 hP hD hS hA hK hG (isC := []) rfl (by decide +kernel) rfl ⟨Nat.zero_le _, Nat.zero_le _⟩ (pl := [none, none, none]) (nw := 3) rfl (by decide +kernel) (w2 := (ws_X6_advance cI cJ cZ cA q_X_reader q_X_text q_X_text_cells u_X_reader_state u_X_reader_numbers u_X_text_limit N_X_text_cells v_X_reader_place v_X_reader_token v_X_reader_place v_X_reader_number v_X_text_width v_X_text_size a_X_text_cells)) rfl (st1 := [.int v9]) rfl (fun H locs hP hD hS => ?_)
        refine lv_if_eq (tgt := 113) hx hb dX6_advance_103 (by decide) (fun h103 => ?_) (fun h103 => ?_)
        · have hg := zp hg h103
          refine lv_aload_n hx hb dX6_advance_113 rfl (lv_at hl 1 rfl) ?_
          refine lv_iload_n hx hb dX6_advance_114 rfl (lv_at hl 0 rfl) ?_
          refine lv_bipush (v := 45) hx hb dX6_advance_115 (by decide) ?_
          refine lv_icmp_ne (tgt := 124) hx hb dX6_advance_117 (by decide) (fun h117 => ?_) (fun h117 => ?_)
          · have hg := zn hg h117
            refine lv_iload_n hx hb dX6_advance_124 rfl (lv_at hl 0 rfl) ?_
            refine lv_bipush (v := 59) hx hb dX6_advance_125 (by decide) ?_
            refine lv_icmp_ne (tgt := 134) hx hb dX6_advance_127 (by decide) (fun h127 => ?_) (fun h127 => ?_)
            · have hg := zn hg h127
              refine lv_iconst (v := 5) hx hb dX6_advance_134 (by decide) ?_
              exact B135 5 v_X_reader_place v_X_reader_token v_X_reader_place v_X_reader_number _ _ _ (lv_sub hl [1] rfl) hP hD hS hg
            · have hg := zp hg h127
              refine lv_iconst (v := 4) hx hb dX6_advance_130 (by decide) ?_
              refine lv_goto (tgt := 135) hx hb dX6_advance_131 (by decide) ?_
              exact B135 4 v_X_reader_place v_X_reader_token v_X_reader_place v_X_reader_number _ _ _ (lv_sub hl [1] rfl) hP hD hS hg
          · have hg := zp hg h117
            refine lv_iconst (v := 3) hx hb dX6_advance_120 (by decide) ?_
            refine lv_goto (tgt := 135) hx hb dX6_advance_121 (by decide) ?_
            exact B135 3 v_X_reader_place v_X_reader_token v_X_reader_place v_X_reader_number _ _ _ (lv_sub hl [1] rfl) hP hD hS hg
        · have hg := zn hg h103
          refine lv_aload_n hx hb dX6_advance_106 rfl (lv_at hl 1 rfl) ?_
          obtain ⟨v11, hc12, hg⟩ := zbd hg
          refine zcallV (rest := []) S (c_X6_passFigures l D cI cJ cZ cA ga q_X_reader q_X_text q_X_text_cells u_X_reader_state u_X_reader_numbers u_X_text_limit N_X_text_cells v_X_reader_place v_X_reader_token v_X_reader_place v_X_reader_number v_X_text_width v_X_text_size a_X_text_cells v11 hc12) (zgV zw_366 zw_367 zw_368 zw_41 zw_369) rfl hd_X6_passFigures ⟨rfl, rfl⟩ ⟨Nat.le_of_ble_eq_true rfl, Nat.le_of_ble_eq_true rfl⟩ 0 6 rfl rfl rfl hl.1 rfl (Nat.le_of_ble_eq_true rfl) dX6_advance_107 hP hD hS hA hK hG (isC := [0, 1, 2]) rfl (by decide +kernel) rfl ⟨Nat.zero_le _, Nat.zero_le _⟩ (pl := [some 0, some 1, some 2]) (nw := 3) rfl (by decide +kernel) (w2 := (ws_X6_advance cI cJ cZ cA q_X_reader q_X_text q_X_text_cells u_X_reader_state u_X_reader_numbers u_X_text_limit N_X_text_cells v11.1 v11.2.1 v_X_reader_place v11.2.2 v_X_text_width v_X_text_size a_X_text_cells)) rfl (st1 := []) rfl (fun H locs hP hD hS => ?_)
          refine lv_goto (tgt := 148) hx hb dX6_advance_110 (by decide) ?_
          exact hret v11.1 v11.2.1 v_X_reader_place v11.2.2 hg _ _ _ _ hP hS dX6_advance_148
      · have hg := zn hg h89
        refine lv_aload_n hx hb dX6_advance_92 rfl (lv_at hl 1 rfl) ?_
        obtain ⟨v13, hc14, hg⟩ := zbd hg
        refine zcallV (rest := []) S (c_X6_passWord l D cI cJ cZ cA ga q_X_reader q_X_text q_X_text_cells u_X_reader_state u_X_reader_numbers (.int v_X_reader_place) (.int v_X_reader_number) u_X_text_limit N_X_text_cells v_X_reader_place v_X_reader_token v_X_text_width v_X_text_size a_X_text_cells v13 hc14) (zgV zw_359 zw_360 zw_361 zw_41 zw_362) rfl hd_X6_passWord ⟨rfl, rfl⟩ ⟨Nat.le_of_ble_eq_true rfl, Nat.le_of_ble_eq_true rfl⟩ 0 6 rfl rfl rfl hl.1 rfl (Nat.le_of_ble_eq_true rfl) dX6_advance_93 hP hD hS hA hK hG (isC := [0, 1, 2]) rfl (by decide +kernel) rfl ⟨Nat.zero_le _, Nat.zero_le _⟩ (pl := [some 0, some 1, some 2]) (nw := 3) rfl (by decide +kernel) (w2 := (ws_X6_advance cI cJ cZ cA q_X_reader q_X_text q_X_text_cells u_X_reader_state u_X_reader_numbers u_X_text_limit N_X_text_cells v13.1 v13.2 v_X_reader_place v_X_reader_number v_X_text_width v_X_text_size a_X_text_cells)) rfl (st1 := []) rfl (fun H locs hP hD hS => ?_)
        refine lv_goto (tgt := 148) hx hb dX6_advance_96 (by decide) ?_
        exact hret v13.1 v13.2 v_X_reader_place v_X_reader_number hg _ _ _ _ hP hS dX6_advance_148
    · have hg := zn hg h63
      refine lv_aload_n hx hb dX6_advance_66 rfl (lv_at hl 0 rfl) ?_
      refine lv_iconst (v := 0) hx hb dX6_advance_67 (by decide) ?_
      refine zputf (C := RX6) (T := TX6) (N := 7) (ty := .int) S hK hP hD hS 0 rfl rfl 4 (Nat.le_of_ble_eq_true rfl) zf_6 tyX6 tyX6_ok nmX6 zw_345 rfl (by decide +kernel) rfl rfl (Nat.le_of_ble_eq_true rfl) dX6_advance_68 (w2 := (ws_X6_advance cI cJ cZ cA q_X_reader q_X_text q_X_text_cells u_X_reader_state u_X_reader_numbers u_X_text_limit N_X_text_cells v_X_reader_place 0 v_X_reader_place v_X_reader_number v_X_text_width v_X_text_size a_X_text_cells)) rfl (fun H locs hP hD hS => ?_)
      exact hret v_X_reader_place 0 v_X_reader_place v_X_reader_number hg _ _ _ _ hP hS dX6_advance_71
  have B0 : ∀  (n : Nat) (v_X_reader_place : Int32) (v_X_reader_token : Int32) (v_X_reader_first : Int32) (v_X_reader_number : Int32) (H : Heap) (locs : List Loc) (ls : Array Slot) (hl : lv_has ls 2 [(0, .ref q_X_reader)]) (hP : va_P D vwCl (ws_X6_advance cI cJ cZ cA q_X_reader q_X_text q_X_text_cells u_X_reader_state u_X_reader_numbers u_X_text_limit N_X_text_cells v_X_reader_place v_X_reader_token v_X_reader_first v_X_reader_number v_X_text_width v_X_text_size a_X_text_cells) H) (hD : va_D A (ws_X6_advance cI cJ cZ cA q_X_reader q_X_text q_X_text_cells u_X_reader_state u_X_reader_numbers u_X_text_limit N_X_text_cells v_X_reader_place v_X_reader_token v_X_reader_first v_X_reader_number v_X_text_width v_X_text_size a_X_text_cells)) (hS : va_S A s.heap H locs), g_X6_advance_0 N_X_text_cells v_X_text_width v_X_text_size a_X_text_cells n v_X_reader_place v_X_reader_token v_X_reader_first v_X_reader_number = some o → W p l e rm_X6_advance s m args below meth c H locs 0 0 Q (F0 m 0 ls []) := by
    intro  n
    induction n with
    | zero => intro v_X_reader_place v_X_reader_token v_X_reader_first v_X_reader_number H locs ls hl hP hD hS hg; exact nomatch (show (none : Option (Int32 × Int32 × Int32 × Int32)) = some o from hg)
    | succ n ih =>
      intro v_X_reader_place v_X_reader_token v_X_reader_first v_X_reader_number H locs ls hl hP hD hS hg
      have hg : g_X6_advance_0b N_X_text_cells v_X_text_width v_X_text_size a_X_text_cells (g_X6_advance_0 N_X_text_cells v_X_text_width v_X_text_size a_X_text_cells n) v_X_reader_place v_X_reader_token v_X_reader_first v_X_reader_number = some o := hg
      refine lv_aload_n hx hb dX6_advance_0 rfl (lv_at hl 0 rfl) ?_
      refine zget (C := RX6) (T := TX6) (N := 7) S hK hP 0 rfl rfl 3 (Nat.le_of_ble_eq_true rfl) zf_6 zw_344 rfl dX6_advance_1 ?_
      refine lv_aload_n hx hb dX6_advance_4 rfl (lv_at hl 0 rfl) ?_
      refine zget (C := RX6) (T := TX6) (N := 7) S hK hP 0 rfl rfl 0 (Nat.le_of_ble_eq_true rfl) zf_6 zw_127 rfl dX6_advance_5 ?_
      obtain ⟨v1, hc2, hg⟩ := zbd hg
      refine zcallV (rest := [.int v_X_reader_place]) S (c_X7_size l D cI cJ cZ cA ga q_X_text (.int v_X_text_width) u_X_text_limit (.ref q_X_text_cells) v_X_text_size v1 hc2) (zgV zw_351 zw_180 zw_181 zw_32 zw_182) rfl hd_X7_size ⟨rfl, rfl⟩ ⟨Nat.le_of_ble_eq_true rfl, Nat.le_of_ble_eq_true rfl⟩ 1 7 rfl rfl rfl hl.1 rfl (Nat.le_of_ble_eq_true rfl) dX6_advance_8 hP hD hS hA hK hG (isC := [1]) rfl (by decide +kernel) rfl ⟨Nat.zero_le _, Nat.zero_le _⟩ (pl := [none, some 0, none]) (nw := 3) rfl (by decide +kernel) (w2 := (ws_X6_advance cI cJ cZ cA q_X_reader q_X_text q_X_text_cells u_X_reader_state u_X_reader_numbers u_X_text_limit N_X_text_cells v_X_reader_place v_X_reader_token v_X_reader_first v_X_reader_number v_X_text_width v_X_text_size a_X_text_cells)) rfl (st1 := [.int v1, .int v_X_reader_place]) rfl (fun H locs hP hD hS => ?_)
      refine lv_icmp_ge (tgt := 44) hx hb dX6_advance_11 (by decide) (fun h11 => ?_) (fun h11 => ?_)
      · have hg := zp hg h11
        exact B44 v_X_reader_place v_X_reader_token v_X_reader_first v_X_reader_number _ _ _ hl hP hD hS hg
      · have hg := zn hg h11
        refine lv_aload_n hx hb dX6_advance_14 rfl (lv_at hl 0 rfl) ?_
        refine zget (C := RX6) (T := TX6) (N := 7) S hK hP 0 rfl rfl 0 (Nat.le_of_ble_eq_true rfl) zf_6 zw_127 rfl dX6_advance_15 ?_
        refine lv_aload_n hx hb dX6_advance_18 rfl (lv_at hl 0 rfl) ?_
        refine zget (C := RX6) (T := TX6) (N := 7) S hK hP 0 rfl rfl 3 (Nat.le_of_ble_eq_true rfl) zf_6 zw_344 rfl dX6_advance_19 ?_
        refine lv_iconst (v := 0) hx hb dX6_advance_22 (by decide) ?_
        obtain ⟨v15, hc16, hg⟩ := zbd hg
        refine zcallV (rest := []) S (c_X7_at l D cI cJ cZ cA ga q_X_text q_X_text_cells u_X_text_limit N_X_text_cells v_X_text_width v_X_text_size a_X_text_cells v_X_reader_place 0 v15 hc16) (zgV zw_352 zw_353 zw_354 zw_32 zw_355) rfl hd_X7_at ⟨rfl, rfl⟩ ⟨Nat.le_of_ble_eq_true rfl, Nat.le_of_ble_eq_true rfl⟩ 1 7 rfl rfl rfl hl.1 rfl (Nat.le_of_ble_eq_true rfl) dX6_advance_23 hP hD hS hA hK hG (isC := [1, 2]) rfl (by decide +kernel) rfl ⟨Nat.zero_le _, Nat.zero_le _⟩ (pl := [none, some 0, some 1]) (nw := 3) rfl (by decide +kernel) (w2 := (ws_X6_advance cI cJ cZ cA q_X_reader q_X_text q_X_text_cells u_X_reader_state u_X_reader_numbers u_X_text_limit N_X_text_cells v_X_reader_place v_X_reader_token v_X_reader_first v_X_reader_number v_X_text_width v_X_text_size a_X_text_cells)) rfl (st1 := [.int v15]) rfl (fun H locs hP hD hS => ?_)
        refine lv_bipush (v := 32) hx hb dX6_advance_26 (by decide) ?_
        refine lv_icmp_ne (tgt := 44) hx hb dX6_advance_28 (by decide) (fun h28 => ?_) (fun h28 => ?_)
        · have hg := zn hg h28
          exact B44 v_X_reader_place v_X_reader_token v_X_reader_first v_X_reader_number _ _ _ hl hP hD hS hg
        · have hg := zp hg h28
          refine lv_aload_n hx hb dX6_advance_31 rfl (lv_at hl 0 rfl) ?_
          refine lv_dup hx hb dX6_advance_32 rfl ?_
          refine zget (C := RX6) (T := TX6) (N := 7) S hK hP 0 rfl rfl 3 (Nat.le_of_ble_eq_true rfl) zf_6 zw_344 rfl dX6_advance_33 ?_
          refine lv_iconst (v := 1) hx hb dX6_advance_36 (by decide) ?_
          refine lv_iadd hx hb dX6_advance_37 ?_
          refine zputf (C := RX6) (T := TX6) (N := 7) (ty := .int) S hK hP hD hS 0 rfl rfl 3 (Nat.le_of_ble_eq_true rfl) zf_6 tyX6 tyX6_ok nmX6 zw_344 rfl (by decide +kernel) rfl rfl (Nat.le_of_ble_eq_true rfl) dX6_advance_38 (w2 := (ws_X6_advance cI cJ cZ cA q_X_reader q_X_text q_X_text_cells u_X_reader_state u_X_reader_numbers u_X_text_limit N_X_text_cells (v_X_reader_place + 1) v_X_reader_token v_X_reader_first v_X_reader_number v_X_text_width v_X_text_size a_X_text_cells)) rfl (fun H locs hP hD hS => ?_)
          refine lv_goto (tgt := 0) hx hb dX6_advance_41 (by decide) ?_
          exact ih (v_X_reader_place + 1) v_X_reader_token v_X_reader_first v_X_reader_number _ _ _ hl hP hD hS hg
  exact B0 zF v_X_reader_place v_X_reader_token v_X_reader_first v_X_reader_number _ _ _ hl hP hD hS hg

/-! java/lang/String.isLatin1()Z -/
abbrev ws_J0_isLatin1_aae02 (cI cJ cZ cA : ClassId) : va_W := []
abbrev rm_J0_isLatin1_aae02 : Room := { frames := 0, cells := 0, slots := 0, locals := 0 }
def g_J0_isLatin1_aae02 (w0 : Nat) : Option (Int32) :=
  if (1 : Int32) = 0 then (
    some (0)
  ) else (
    if w0 < 7 then
      if (0 : Int32) = 0 then (
        some (1)
      ) else (
        some (0)
      )
    else none
  )
theorem hd_J0_isLatin1_aae02 : yJ0_isLatin1_aae02.cls = RJ0 ∧ yJ0_isLatin1_aae02.cls ≠ "java/lang/invoke/MethodHandle" ∧ yJ0_isLatin1_aae02.cls ≠ "java/lang/invoke/VarHandle" ∧ (parseMethodDescriptor yJ0_isLatin1_aae02.desc).map (fun d => d.parameters.length) = some 0 := by decide +kernel
set_option maxHeartbeats 4000000 in
set_option maxRecDepth 100000 in
theorem c_J0_isLatin1_aae02 (l : Launch) (D : va_G) (cI cJ cZ cA : ClassId) (ga : Nat → Nat) (w0 : Nat) (o : Int32) (hg : g_J0_isLatin1_aae02 w0 = some o) : zM l yJ0_isLatin1_aae02 (Cond.code yJ0_isLatin1_aae02 cJ0_isLatin1_aae02 1 (some .boolean) :: wsL_law) rm_J0_isLatin1_aae02 D (zTy cI cJ cZ cA) ga [.ref (ga (3 + w0))] (ws_J0_isLatin1_aae02 cI cJ cZ cA) (ws_J0_isLatin1_aae02 cI cJ cZ cA) (some (.int o)) := by
  refine zenterN (own := RJ0) (by decide) rfl rfl (Nat.le_of_ble_eq_true rfl) ?_
  intro p e s m args below meth c A ls Q S hA hK hG hl hP hD hS hret0
  have hx := S.1
  have hb := S.2.1
  have ht : ∀ w, w ∈ wsL_law → w.before args s = true := fun w h => S.2.2.2.2 w (List.mem_cons_of_mem _ h)
  have hret : ∀ (r9 : Int32), (some (r9) : Option (Int32)) = some o → narrow .boolean (.int r9) = .int r9 → ∀ (H : Heap) (locs : List Loc) (pc : Nat) (ls : Array Slot), va_P D vwCl (ws_J0_isLatin1_aae02 cI cJ cZ cA) H → va_S A s.heap H locs → decode cJ0_isLatin1_aae02 pc = .ok (.ireturn, 1) → W p l e rm_J0_isLatin1_aae02 s m args below meth c H locs 0 0 Q (F0 m pc ls [.int r9]) := by
    intro r9 he; cases he; exact hret0
  have hl : lv_has ls 1 [(0, .ref (ga (3 + w0)))] := hl
  refine va_gets hx hb hG.2.2.2.1 hS S.2.2.2.1 (ht _ zw_397) (fun _ h9 => h9) dJ0_isLatin1_aae02_0 ?_
  refine lv_if_eq (tgt := 17) hx hb dJ0_isLatin1_aae02_3 (by decide) (fun h3 => ?_) (fun h3 => ?_)
  · have hg := zp hg h3
    refine lv_iconst (v := 0) hx hb dJ0_isLatin1_aae02_17 (by decide) ?_
    exact hret 0 hg (zb01 (Or.inl rfl)) _ _ _ _ hP hS dJ0_isLatin1_aae02_18
  · have hg := zn hg h3
    refine lv_aload_n hx hb dJ0_isLatin1_aae02_6 rfl (lv_at hl 0 rfl) ?_
    obtain ⟨h1, hg⟩ := zck2 hg
    refine vk_getf hx hb (hG.2.2.1.1 w0 h1).2.1 hS S.2.2.2.1 (ht _ zw_398) (fun _ h9 => h9) dJ0_isLatin1_aae02_7 ?_
    refine lv_if_ne (tgt := 17) hx hb dJ0_isLatin1_aae02_10 (by decide) (fun h10 => ?_) (fun h10 => ?_)
    · have hg := zn hg h10
      refine lv_iconst (v := 0) hx hb dJ0_isLatin1_aae02_17 (by decide) ?_
      exact hret 0 hg (zb01 (Or.inl rfl)) _ _ _ _ hP hS dJ0_isLatin1_aae02_18
    · have hg := zp hg h10
      refine lv_iconst (v := 1) hx hb dJ0_isLatin1_aae02_13 (by decide) ?_
      refine lv_goto (tgt := 18) hx hb dJ0_isLatin1_aae02_14 (by decide) ?_
      exact hret 1 hg (zb01 (Or.inr rfl)) _ _ _ _ hP hS dJ0_isLatin1_aae02_18

/-! jdk/internal/util/Preconditions.checkIndex(IILjava/util/function/BiFunction;)I -/
abbrev ws_J3_checkIndex_8e157 (cI cJ cZ cA : ClassId) : va_W := []
abbrev rm_J3_checkIndex_8e157 : Room := { frames := 0, cells := 0, slots := 0, locals := 0 }
def g_J3_checkIndex_8e157 (x0 : Int32) (x1 : Int32) : Option (Int32) :=
  if x0 < 0 then (
    none
  ) else (
    if x0 < x1 then (
      some (x0)
    ) else (
      none
    )
  )
theorem hd_J3_checkIndex_8e157 : yJ3_checkIndex_8e157.cls ≠ "java/lang/invoke/MethodHandle" ∧ yJ3_checkIndex_8e157.cls ≠ "java/lang/invoke/VarHandle" ∧ (parseMethodDescriptor yJ3_checkIndex_8e157.desc).map (fun d => d.parameters.length) = some 3 := by decide +kernel
set_option maxHeartbeats 4000000 in
set_option maxRecDepth 100000 in
theorem c_J3_checkIndex_8e157 (l : Launch) (D : va_G) (cI cJ cZ cA : ClassId) (ga : Nat → Nat) (x0 : Int32) (x1 : Int32) (xv2 : Option Nat) (o : Int32) (hg : g_J3_checkIndex_8e157 x0 x1 = some o) : zM l yJ3_checkIndex_8e157 (Cond.code yJ3_checkIndex_8e157 cJ3_checkIndex_8e157 3 (some .int) :: wsL_law) rm_J3_checkIndex_8e157 D (zTy cI cJ cZ cA) ga [.int x0, .int x1, va_rf xv2] (ws_J3_checkIndex_8e157 cI cJ cZ cA) (ws_J3_checkIndex_8e157 cI cJ cZ cA) (some (.int o)) := by
  refine zenterI (own := RJ3) (by decide) rfl rfl (by cases xv2 <;> exact Nat.le_of_ble_eq_true rfl) ?_
  intro p e s m args below meth c A ls Q S hA hK hG hl hP hD hS hret0
  have hx := S.1
  have hb := S.2.1
  have ht : ∀ w, w ∈ wsL_law → w.before args s = true := fun w h => S.2.2.2.2 w (List.mem_cons_of_mem _ h)
  have hret : ∀ (r9 : Int32), (some (r9) : Option (Int32)) = some o → ∀ (H : Heap) (locs : List Loc) (pc : Nat) (ls : Array Slot), va_P D vwCl (ws_J3_checkIndex_8e157 cI cJ cZ cA) H → va_S A s.heap H locs → decode cJ3_checkIndex_8e157 pc = .ok (.ireturn, 1) → W p l e rm_J3_checkIndex_8e157 s m args below meth c H locs 0 0 Q (F0 m pc ls [.int r9]) := by
    intro r9 he; cases he; exact hret0
  have hl : lv_has ls 3 [(0, .int x0), (1, .int x1), (2, va_rf xv2)] := hl
  refine lv_iload_n hx hb dJ3_checkIndex_8e157_0 rfl (lv_at hl 0 rfl) ?_
  refine lv_if_lt (tgt := 9) hx hb dJ3_checkIndex_8e157_1 (by decide) (fun h1 => ?_) (fun h1 => ?_)
  · have hg := zp hg h1
    cases hg
  · have hg := zn hg h1
    refine lv_iload_n hx hb dJ3_checkIndex_8e157_4 rfl (lv_at hl 0 rfl) ?_
    refine lv_iload_n hx hb dJ3_checkIndex_8e157_5 rfl (lv_at hl 1 rfl) ?_
    refine lv_icmp_lt (tgt := 16) hx hb dJ3_checkIndex_8e157_6 (by decide) (fun h6 => ?_) (fun h6 => ?_)
    · have hg := zp hg h6
      refine lv_iload_n hx hb dJ3_checkIndex_8e157_16 rfl (lv_at hl 0 rfl) ?_
      exact hret x0 hg _ _ _ _ hP hS dJ3_checkIndex_8e157_17
    · have hg := zn hg h6
      cases hg

/-! java/lang/String.checkIndex(II)V -/
abbrev ws_J0_checkIndex_df160 (cI cJ cZ cA : ClassId) : va_W := []
abbrev rm_J0_checkIndex_df160 : Room := { frames := 1, cells := 0, slots := 0, locals := 22 }
def g_J0_checkIndex_df160 (x0 : Int32) (x1 : Int32) : Option (Unit) :=
  (g_J3_checkIndex_8e157 x0 x1).bind fun v3 =>
  some ()
theorem hd_J0_checkIndex_df160 : yJ0_checkIndex_df160.cls ≠ "java/lang/invoke/MethodHandle" ∧ yJ0_checkIndex_df160.cls ≠ "java/lang/invoke/VarHandle" ∧ (parseMethodDescriptor yJ0_checkIndex_df160.desc).map (fun d => d.parameters.length) = some 2 := by decide +kernel
set_option maxHeartbeats 4000000 in
set_option maxRecDepth 100000 in
theorem c_J0_checkIndex_df160 (l : Launch) (D : va_G) (cI cJ cZ cA : ClassId) (ga : Nat → Nat) (x0 : Int32) (x1 : Int32) (o : Unit) (hg : g_J0_checkIndex_df160 x0 x1 = some o) : zM l yJ0_checkIndex_df160 (Cond.code yJ0_checkIndex_df160 cJ0_checkIndex_df160 2 none :: wsL_law) rm_J0_checkIndex_df160 D (zTy cI cJ cZ cA) ga [.int x0, .int x1] (ws_J0_checkIndex_df160 cI cJ cZ cA) (ws_J0_checkIndex_df160 cI cJ cZ cA) none := by
  refine zenterV (own := RJ0) (by decide) rfl rfl (Nat.le_of_ble_eq_true rfl) ?_
  intro p e s m args below meth c A ls Q S hA hK hG hl hP hD hS hret0
  have hx := S.1
  have hb := S.2.1
  have ht : ∀ w, w ∈ wsL_law → w.before args s = true := fun w h => S.2.2.2.2 w (List.mem_cons_of_mem _ h)
  have hret : (some () : Option (Unit)) = some o → ∀ (H : Heap) (locs : List Loc) (pc : Nat) (ls : Array Slot), va_P D vwCl (ws_J0_checkIndex_df160 cI cJ cZ cA) H → va_S A s.heap H locs → decode cJ0_checkIndex_df160 pc = .ok (.return_, 1) → W p l e rm_J0_checkIndex_df160 s m args below meth c H locs 0 0 Q (F0 m pc ls []) := by
    intro  he; cases he; exact hret0
  have hl : lv_has ls 2 [(0, .int x0), (1, .int x1)] := hl
  refine lv_iload_n hx hb dJ0_checkIndex_df160_0 rfl (lv_at hl 0 rfl) ?_
  refine lv_iload_n hx hb dJ0_checkIndex_df160_1 rfl (lv_at hl 1 rfl) ?_
  rcases hG.2.2.2.2 with hz9 | ⟨t9, hz9⟩
  · refine va_gets hx hb hz9 hS S.2.2.2.1 (ht _ zw_414) (fun _ h9 => h9) dJ0_checkIndex_df160_2 ?_
    obtain ⟨v1, hc2, hg⟩ := zbd hg
    refine zcallS (rest := []) S (c_J3_checkIndex_8e157 l D cI cJ cZ cA ga x0 x1 none v1 hc2) (zgS zw_415 zw_416 zw_417 zw_418) rfl hd_J3_checkIndex_8e157 ⟨rfl, rfl⟩ ⟨Nat.le_of_ble_eq_true rfl, Nat.le_of_ble_eq_true rfl⟩ rfl hl.1 rfl (Nat.le_of_ble_eq_true rfl) dJ0_checkIndex_df160_5 hP hD hS hA hK hG (isC := []) rfl (by decide +kernel) rfl ⟨Nat.zero_le _, Nat.zero_le _⟩ (pl := []) (nw := 0) rfl (by decide +kernel) (w2 := (ws_J0_checkIndex_df160 cI cJ cZ cA)) rfl (st1 := [.int v1]) rfl (fun H locs hP hD hS => ?_)
    refine lv_pop hx hb dJ0_checkIndex_df160_8 rfl ?_
    exact hret  hg _ _ _ _ hP hS dJ0_checkIndex_df160_9
  · refine va_gets hx hb hz9 hS S.2.2.2.1 (ht _ zw_414) (fun _ h9 => h9) dJ0_checkIndex_df160_2 ?_
    obtain ⟨v3, hc4, hg⟩ := zbd hg
    refine zcallS (rest := []) S (c_J3_checkIndex_8e157 l D cI cJ cZ cA ga x0 x1 (some t9) v3 hc4) (zgS zw_415 zw_416 zw_417 zw_418) rfl hd_J3_checkIndex_8e157 ⟨rfl, rfl⟩ ⟨Nat.le_of_ble_eq_true rfl, Nat.le_of_ble_eq_true rfl⟩ rfl hl.1 rfl (Nat.le_of_ble_eq_true rfl) dJ0_checkIndex_df160_5 hP hD hS hA hK hG (isC := []) rfl (by decide +kernel) rfl ⟨Nat.zero_le _, Nat.zero_le _⟩ (pl := []) (nw := 0) rfl (by decide +kernel) (w2 := (ws_J0_checkIndex_df160 cI cJ cZ cA)) rfl (st1 := [.int v3]) rfl (fun H locs hP hD hS => ?_)
    refine lv_pop hx hb dJ0_checkIndex_df160_8 rfl ?_
    exact hret  hg _ _ _ _ hP hS dJ0_checkIndex_df160_9

/-! java/lang/StringLatin1.charAt([BI)C -/
abbrev ws_J1_charAt_3b067 (cI cJ cZ cA : ClassId) : va_W := []
abbrev rm_J1_charAt_3b067 : Room := { frames := 2, cells := 0, slots := 0, locals := 43 }
def g_J1_charAt_3b067 (w0 : Nat) (x1 : Int32) : Option (Int32) :=
  if w0 < 7 then
    (g_J0_checkIndex_df160 x1 (Int32.ofNat (zLen.getD w0 0))).bind fun v2 =>
    if w0 < 7 then
      if x1 < 0 ∨ (zLen.getD w0 0) ≤ x1.toNatClampNeg then none else
      some (((((zByt.getD w0 []).getD (x1.toNatClampNeg) 0) &&& 255).toUInt32 % 65536).toInt32)
    else none
  else none
theorem hd_J1_charAt_3b067 : yJ1_charAt_3b067.cls ≠ "java/lang/invoke/MethodHandle" ∧ yJ1_charAt_3b067.cls ≠ "java/lang/invoke/VarHandle" ∧ (parseMethodDescriptor yJ1_charAt_3b067.desc).map (fun d => d.parameters.length) = some 2 := by decide +kernel
set_option maxHeartbeats 4000000 in
set_option maxRecDepth 100000 in
theorem c_J1_charAt_3b067 (l : Launch) (D : va_G) (cI cJ cZ cA : ClassId) (ga : Nat → Nat) (w0 : Nat) (x1 : Int32) (o : Int32) (hg : g_J1_charAt_3b067 w0 x1 = some o) : zM l yJ1_charAt_3b067 (Cond.code yJ1_charAt_3b067 cJ1_charAt_3b067 2 (some .char) :: wsL_law) rm_J1_charAt_3b067 D (zTy cI cJ cZ cA) ga [.ref (ga (10 + w0)), .int x1] (ws_J1_charAt_3b067 cI cJ cZ cA) (ws_J1_charAt_3b067 cI cJ cZ cA) (some (.int o)) := by
  refine zenterN (own := RJ1) (by decide) rfl rfl (Nat.le_of_ble_eq_true rfl) ?_
  intro p e s m args below meth c A ls Q S hA hK hG hl hP hD hS hret0
  have hx := S.1
  have hb := S.2.1
  have ht : ∀ w, w ∈ wsL_law → w.before args s = true := fun w h => S.2.2.2.2 w (List.mem_cons_of_mem _ h)
  have hret : ∀ (r9 : Int32), (some (r9) : Option (Int32)) = some o → narrow .char (.int r9) = .int r9 → ∀ (H : Heap) (locs : List Loc) (pc : Nat) (ls : Array Slot), va_P D vwCl (ws_J1_charAt_3b067 cI cJ cZ cA) H → va_S A s.heap H locs → decode cJ1_charAt_3b067 pc = .ok (.ireturn, 1) → W p l e rm_J1_charAt_3b067 s m args below meth c H locs 0 0 Q (F0 m pc ls [.int r9]) := by
    intro r9 he; cases he; exact hret0
  have hl : lv_has ls 2 [(0, .ref (ga (10 + w0))), (1, .int x1)] := hl
  refine lv_iload_n hx hb dJ1_charAt_3b067_0 rfl (lv_at hl 1 rfl) ?_
  refine lv_aload_n hx hb dJ1_charAt_3b067_1 rfl (lv_at hl 0 rfl) ?_
  obtain ⟨h1, hg⟩ := zck2 hg
  refine va_tlen hx hb (hG.2.2.1.1 w0 h1).2.2.2 hS rfl dJ1_charAt_3b067_2 ?_
  obtain ⟨v2, hc3, hg⟩ := zbd hg
  refine zcallS (rest := []) S (c_J0_checkIndex_df160 l D cI cJ cZ cA ga x1 (Int32.ofNat (zLen.getD w0 0)) v2 hc3) (zgS zw_411 zw_412 zw_390 zw_413) rfl hd_J0_checkIndex_df160 ⟨rfl, rfl⟩ ⟨Nat.le_of_ble_eq_true rfl, Nat.le_of_ble_eq_true rfl⟩ rfl hl.1 rfl (Nat.le_of_ble_eq_true rfl) dJ1_charAt_3b067_3 hP hD hS hA hK hG (isC := []) rfl (by decide +kernel) rfl ⟨Nat.zero_le _, Nat.zero_le _⟩ (pl := []) (nw := 0) rfl (by decide +kernel) (w2 := (ws_J1_charAt_3b067 cI cJ cZ cA)) rfl (st1 := []) rfl (fun H locs hP hD hS => ?_)
  refine lv_aload_n hx hb dJ1_charAt_3b067_6 rfl (lv_at hl 0 rfl) ?_
  refine lv_iload_n hx hb dJ1_charAt_3b067_7 rfl (lv_at hl 1 rfl) ?_
  obtain ⟨h4, hg⟩ := zck2 hg
  obtain ⟨h5, hg⟩ := zck hg
  refine va_tb hx hb (hG.2.2.1.1 w0 h4).2.2.2 hS h5 rfl dJ1_charAt_3b067_8 ?_
  refine lv_sipush (v := 255) hx hb dJ1_charAt_3b067_9 (by decide) ?_
  refine lv_iand hx hb dJ1_charAt_3b067_12 ?_
  refine lv_i2c hx hb dJ1_charAt_3b067_13 rfl ?_
  exact hret (((((zByt.getD w0 []).getD (x1.toNatClampNeg) 0) &&& 255).toUInt32 % 65536).toInt32) hg (pk_nc _) _ _ _ _ hP hS dJ1_charAt_3b067_14

/-! java/lang/String.charAt(I)C -/
abbrev ws_J0_charAt_5068e (cI cJ cZ cA : ClassId) : va_W := []
abbrev rm_J0_charAt_5068e : Room := { frames := 3, cells := 0, slots := 0, locals := 64 }
def g_J0_charAt_5068e (w0 : Nat) (x1 : Int32) : Option (Int32) :=
  if w0 < 7 then
    (g_J0_isLatin1_aae02 w0).bind fun v1 =>
    if v1 = 0 then (
      none
    ) else (
      if w0 < 7 then
        (g_J1_charAt_3b067 w0 x1).bind fun v6 =>
        if (v6.toUInt32 % 65536).toInt32 = v6 then
          some (v6)
        else none
      else none
    )
  else none
theorem hd_J0_charAt_5068e : yJ0_charAt_5068e.cls = RJ0 ∧ yJ0_charAt_5068e.cls ≠ "java/lang/invoke/MethodHandle" ∧ yJ0_charAt_5068e.cls ≠ "java/lang/invoke/VarHandle" ∧ (parseMethodDescriptor yJ0_charAt_5068e.desc).map (fun d => d.parameters.length) = some 1 := by decide +kernel
set_option maxHeartbeats 4000000 in
set_option maxRecDepth 100000 in
theorem c_J0_charAt_5068e (l : Launch) (D : va_G) (cI cJ cZ cA : ClassId) (ga : Nat → Nat) (w0 : Nat) (x1 : Int32) (o : Int32) (hg : g_J0_charAt_5068e w0 x1 = some o) : zM l yJ0_charAt_5068e (Cond.code yJ0_charAt_5068e cJ0_charAt_5068e 2 (some .char) :: wsL_law) rm_J0_charAt_5068e D (zTy cI cJ cZ cA) ga [.ref (ga (3 + w0)), .int x1] (ws_J0_charAt_5068e cI cJ cZ cA) (ws_J0_charAt_5068e cI cJ cZ cA) (some (.int o)) := by
  refine zenterN (own := RJ0) (by decide) rfl rfl (Nat.le_of_ble_eq_true rfl) ?_
  intro p e s m args below meth c A ls Q S hA hK hG hl hP hD hS hret0
  have hx := S.1
  have hb := S.2.1
  have ht : ∀ w, w ∈ wsL_law → w.before args s = true := fun w h => S.2.2.2.2 w (List.mem_cons_of_mem _ h)
  have hret : ∀ (r9 : Int32), (some (r9) : Option (Int32)) = some o → narrow .char (.int r9) = .int r9 → ∀ (H : Heap) (locs : List Loc) (pc : Nat) (ls : Array Slot), va_P D vwCl (ws_J0_charAt_5068e cI cJ cZ cA) H → va_S A s.heap H locs → decode cJ0_charAt_5068e pc = .ok (.ireturn, 1) → W p l e rm_J0_charAt_5068e s m args below meth c H locs 0 0 Q (F0 m pc ls [.int r9]) := by
    intro r9 he; cases he; exact hret0
  have hl : lv_has ls 2 [(0, .ref (ga (3 + w0))), (1, .int x1)] := hl
  refine lv_aload_n hx hb dJ0_charAt_5068e_0 rfl (lv_at hl 0 rfl) ?_
  obtain ⟨h3, hg⟩ := zck2 hg
  obtain ⟨v1, hc2, hg⟩ := zbd hg
  refine zcallVS (rest := []) S (c_J0_isLatin1_aae02 l D cI cJ cZ cA ga w0 v1 hc2) (zgV zw_403 zw_404 zw_405 zw_390 zw_406) rfl hd_J0_isLatin1_aae02 ⟨rfl, rfl⟩ ⟨Nat.le_of_ble_eq_true rfl, Nat.le_of_ble_eq_true rfl⟩ (vk_recv (i := w0) hG.2.2.1 h3 hS) rfl hl.1 rfl (Nat.le_of_ble_eq_true rfl) dJ0_charAt_5068e_1 hP hD hS hA hK hG (isC := []) rfl (by decide +kernel) rfl ⟨Nat.zero_le _, Nat.zero_le _⟩ (pl := []) (nw := 0) rfl (by decide +kernel) (w2 := (ws_J0_charAt_5068e cI cJ cZ cA)) rfl (st1 := [.int v1]) rfl (fun H locs hP hD hS => ?_)
  refine lv_if_eq (tgt := 16) hx hb dJ0_charAt_5068e_4 (by decide) (fun h4 => ?_) (fun h4 => ?_)
  · have hg := zp hg h4
    cases hg
  · have hg := zn hg h4
    refine lv_aload_n hx hb dJ0_charAt_5068e_7 rfl (lv_at hl 0 rfl) ?_
    obtain ⟨h5, hg⟩ := zck2 hg
    refine vk_getf hx hb (hG.2.2.1.1 w0 h5).2.2.1 hS S.2.2.2.1 (ht _ zw_392) (fun _ h9 => h9) dJ0_charAt_5068e_8 ?_
    refine lv_iload_n hx hb dJ0_charAt_5068e_11 rfl (lv_at hl 1 rfl) ?_
    obtain ⟨v6, hc7, hg⟩ := zbd hg
    refine zcallS (rest := []) S (c_J1_charAt_3b067 l D cI cJ cZ cA ga w0 x1 v6 hc7) (zgS zw_407 zw_408 zw_409 zw_410) rfl hd_J1_charAt_3b067 ⟨rfl, rfl⟩ ⟨Nat.le_of_ble_eq_true rfl, Nat.le_of_ble_eq_true rfl⟩ rfl hl.1 rfl (Nat.le_of_ble_eq_true rfl) dJ0_charAt_5068e_12 hP hD hS hA hK hG (isC := []) rfl (by decide +kernel) rfl ⟨Nat.zero_le _, Nat.zero_le _⟩ (pl := []) (nw := 0) rfl (by decide +kernel) (w2 := (ws_J0_charAt_5068e cI cJ cZ cA)) rfl (st1 := [.int v6]) rfl (fun H locs hP hD hS => ?_)
    obtain ⟨hnar, hg⟩ := zck2 hg
    exact hret v6 hg (by rw [← hnar]; exact pk_nc _) _ _ _ _ hP hS dJ0_charAt_5068e_15

/-! java/lang/String.coder()B -/
abbrev ws_J0_coder_7d493 (cI cJ cZ cA : ClassId) : va_W := []
abbrev rm_J0_coder_7d493 : Room := { frames := 0, cells := 0, slots := 0, locals := 0 }
def g_J0_coder_7d493 (w0 : Nat) : Option (Int32) :=
  if (1 : Int32) = 0 then (
    some (1)
  ) else (
    if w0 < 7 then
      some (0)
    else none
  )
theorem hd_J0_coder_7d493 : yJ0_coder_7d493.cls = RJ0 ∧ yJ0_coder_7d493.cls ≠ "java/lang/invoke/MethodHandle" ∧ yJ0_coder_7d493.cls ≠ "java/lang/invoke/VarHandle" ∧ (parseMethodDescriptor yJ0_coder_7d493.desc).map (fun d => d.parameters.length) = some 0 := by decide +kernel
set_option maxHeartbeats 4000000 in
set_option maxRecDepth 100000 in
theorem c_J0_coder_7d493 (l : Launch) (D : va_G) (cI cJ cZ cA : ClassId) (ga : Nat → Nat) (w0 : Nat) (o : Int32) (hg : g_J0_coder_7d493 w0 = some o) : zM l yJ0_coder_7d493 (Cond.code yJ0_coder_7d493 cJ0_coder_7d493 1 (some .byte) :: wsL_law) rm_J0_coder_7d493 D (zTy cI cJ cZ cA) ga [.ref (ga (3 + w0))] (ws_J0_coder_7d493 cI cJ cZ cA) (ws_J0_coder_7d493 cI cJ cZ cA) (some (.int o)) := by
  refine zenterN (own := RJ0) (by decide) rfl rfl (Nat.le_of_ble_eq_true rfl) ?_
  intro p e s m args below meth c A ls Q S hA hK hG hl hP hD hS hret0
  have hx := S.1
  have hb := S.2.1
  have ht : ∀ w, w ∈ wsL_law → w.before args s = true := fun w h => S.2.2.2.2 w (List.mem_cons_of_mem _ h)
  have hret : ∀ (r9 : Int32), (some (r9) : Option (Int32)) = some o → narrow .byte (.int r9) = .int r9 → ∀ (H : Heap) (locs : List Loc) (pc : Nat) (ls : Array Slot), va_P D vwCl (ws_J0_coder_7d493 cI cJ cZ cA) H → va_S A s.heap H locs → decode cJ0_coder_7d493 pc = .ok (.ireturn, 1) → W p l e rm_J0_coder_7d493 s m args below meth c H locs 0 0 Q (F0 m pc ls [.int r9]) := by
    intro r9 he; cases he; exact hret0
  have hl : lv_has ls 1 [(0, .ref (ga (3 + w0)))] := hl
  refine va_gets hx hb hG.2.2.2.1 hS S.2.2.2.1 (ht _ zw_397) (fun _ h9 => h9) dJ0_coder_7d493_0 ?_
  refine lv_if_eq (tgt := 13) hx hb dJ0_coder_7d493_3 (by decide) (fun h3 => ?_) (fun h3 => ?_)
  · have hg := zp hg h3
    refine lv_iconst (v := 1) hx hb dJ0_coder_7d493_13 (by decide) ?_
    exact hret 1 hg rfl _ _ _ _ hP hS dJ0_coder_7d493_14
  · have hg := zn hg h3
    refine lv_aload_n hx hb dJ0_coder_7d493_6 rfl (lv_at hl 0 rfl) ?_
    obtain ⟨h1, hg⟩ := zck2 hg
    refine vk_getf hx hb (hG.2.2.1.1 w0 h1).2.1 hS S.2.2.2.1 (ht _ zw_398) (fun _ h9 => h9) dJ0_coder_7d493_7 ?_
    refine lv_goto (tgt := 14) hx hb dJ0_coder_7d493_10 (by decide) ?_
    exact hret 0 hg rfl _ _ _ _ hP hS dJ0_coder_7d493_14

/-! java/lang/String.length()I -/
abbrev ws_J0_length_8abf5 (cI cJ cZ cA : ClassId) : va_W := []
abbrev rm_J0_length_8abf5 : Room := { frames := 1, cells := 0, slots := 0, locals := 20 }
def g_J0_length_8abf5 (w0 : Nat) : Option (Int32) :=
  if w0 < 7 then
    if w0 < 7 then
      if w0 < 7 then
        (g_J0_coder_7d493 w0).bind fun v3 =>
        some ((Int32.ofNat (zLen.getD w0 0)) >>> (v3 &&& 31))
      else none
    else none
  else none
theorem hd_J0_length_8abf5 : yJ0_length_8abf5.cls = RJ0 ∧ yJ0_length_8abf5.cls ≠ "java/lang/invoke/MethodHandle" ∧ yJ0_length_8abf5.cls ≠ "java/lang/invoke/VarHandle" ∧ (parseMethodDescriptor yJ0_length_8abf5.desc).map (fun d => d.parameters.length) = some 0 := by decide +kernel
set_option maxHeartbeats 4000000 in
set_option maxRecDepth 100000 in
theorem c_J0_length_8abf5 (l : Launch) (D : va_G) (cI cJ cZ cA : ClassId) (ga : Nat → Nat) (w0 : Nat) (o : Int32) (hg : g_J0_length_8abf5 w0 = some o) : zM l yJ0_length_8abf5 (Cond.code yJ0_length_8abf5 cJ0_length_8abf5 1 (some .int) :: wsL_law) rm_J0_length_8abf5 D (zTy cI cJ cZ cA) ga [.ref (ga (3 + w0))] (ws_J0_length_8abf5 cI cJ cZ cA) (ws_J0_length_8abf5 cI cJ cZ cA) (some (.int o)) := by
  refine zenterI (own := RJ0) (by decide) rfl rfl (Nat.le_of_ble_eq_true rfl) ?_
  intro p e s m args below meth c A ls Q S hA hK hG hl hP hD hS hret0
  have hx := S.1
  have hb := S.2.1
  have ht : ∀ w, w ∈ wsL_law → w.before args s = true := fun w h => S.2.2.2.2 w (List.mem_cons_of_mem _ h)
  have hret : ∀ (r9 : Int32), (some (r9) : Option (Int32)) = some o → ∀ (H : Heap) (locs : List Loc) (pc : Nat) (ls : Array Slot), va_P D vwCl (ws_J0_length_8abf5 cI cJ cZ cA) H → va_S A s.heap H locs → decode cJ0_length_8abf5 pc = .ok (.ireturn, 1) → W p l e rm_J0_length_8abf5 s m args below meth c H locs 0 0 Q (F0 m pc ls [.int r9]) := by
    intro r9 he; cases he; exact hret0
  have hl : lv_has ls 1 [(0, .ref (ga (3 + w0)))] := hl
  refine lv_aload_n hx hb dJ0_length_8abf5_0 rfl (lv_at hl 0 rfl) ?_
  obtain ⟨h1, hg⟩ := zck2 hg
  refine vk_getf hx hb (hG.2.2.1.1 w0 h1).2.2.1 hS S.2.2.2.1 (ht _ zw_392) (fun _ h9 => h9) dJ0_length_8abf5_1 ?_
  obtain ⟨h2, hg⟩ := zck2 hg
  refine va_tlen hx hb (hG.2.2.1.1 w0 h2).2.2.2 hS rfl dJ0_length_8abf5_4 ?_
  refine lv_aload_n hx hb dJ0_length_8abf5_5 rfl (lv_at hl 0 rfl) ?_
  obtain ⟨h5, hg⟩ := zck2 hg
  obtain ⟨v3, hc4, hg⟩ := zbd hg
  refine zcallVS (rest := [.int (Int32.ofNat (zLen.getD w0 0))]) S (c_J0_coder_7d493 l D cI cJ cZ cA ga w0 v3 hc4) (zgV zw_393 zw_394 zw_395 zw_390 zw_396) rfl hd_J0_coder_7d493 ⟨rfl, rfl⟩ ⟨Nat.le_of_ble_eq_true rfl, Nat.le_of_ble_eq_true rfl⟩ (vk_recv (i := w0) hG.2.2.1 h5 hS) rfl hl.1 rfl (Nat.le_of_ble_eq_true rfl) dJ0_length_8abf5_6 hP hD hS hA hK hG (isC := []) rfl (by decide +kernel) rfl ⟨Nat.zero_le _, Nat.zero_le _⟩ (pl := []) (nw := 0) rfl (by decide +kernel) (w2 := (ws_J0_length_8abf5 cI cJ cZ cA)) rfl (st1 := [.int v3, .int (Int32.ofNat (zLen.getD w0 0))]) rfl (fun H locs hP hD hS => ?_)
  refine lv_ishr hx hb dJ0_length_8abf5_9 ?_
  exact hret ((Int32.ofNat (zLen.getD w0 0)) >>> (v3 &&& 31)) hg _ _ _ _ hP hS dJ0_length_8abf5_10

/-! SpokenClock$Reader.isAtHand(Ljava/lang/String;)Z -/
abbrev ws_X6_isAtHand (cI cJ cZ cA : ClassId) (q_X_reader q_X_text q_X_text_cells : Nat) (u_X_reader_state : Value) (u_X_reader_numbers : Value) (u_X_reader_token : Value) (u_X_reader_number : Value) (u_X_text_limit : Value) (N_X_text_cells : Nat) (v_X_reader_place : Int32) (v_X_reader_first : Int32) (v_X_text_width : Int32) (v_X_text_size : Int32) (a_X_text_cells : Nat → Int32) : va_W := [(q_X_reader, .inr (6, [.ref q_X_text, u_X_reader_state, u_X_reader_numbers, .int v_X_reader_place, u_X_reader_token, .int v_X_reader_first, u_X_reader_number])), (q_X_text, .inr (7, [.int v_X_text_width, u_X_text_limit, .ref q_X_text_cells, .int v_X_text_size])), (q_X_text_cells, .inl (cI, N_X_text_cells, .inl a_X_text_cells))]
abbrev rm_X6_isAtHand : Room := { frames := 4, cells := 0, slots := 0, locals := 85 }
def g_X6_isAtHand_20b (N_X_text_cells : Nat) (v_X_reader_place : Int32) (v_X_reader_first : Int32) (v_X_text_width : Int32) (v_X_text_size : Int32) (a_X_text_cells : Nat → Int32) (w1 : Nat) (k20 : Int32 → Option (Int32)) (x2 : Int32) : Option (Int32) :=
  if w1 < 7 then
    (g_J0_length_8abf5 w1).bind fun v4 =>
    if v4 ≤ x2 then (
      some (1)
    ) else (
      (g_X7_at N_X_text_cells v_X_text_width v_X_text_size a_X_text_cells (v_X_reader_first + x2) 0).bind fun v7 =>
      if w1 < 7 then
        (g_J0_charAt_5068e w1 x2).bind fun v9 =>
        if v7 = v9 then (
          k20 (x2 + 1)
        ) else (
          some (0)
        )
      else none
    )
  else none
def g_X6_isAtHand_20 (N_X_text_cells : Nat) (v_X_reader_place : Int32) (v_X_reader_first : Int32) (v_X_text_width : Int32) (v_X_text_size : Int32) (a_X_text_cells : Nat → Int32) (w1 : Nat) : Nat → Int32 → Option (Int32)
  | 0, _ => none
  | n + 1, x2 => g_X6_isAtHand_20b N_X_text_cells v_X_reader_place v_X_reader_first v_X_text_width v_X_text_size a_X_text_cells w1 (g_X6_isAtHand_20 N_X_text_cells v_X_reader_place v_X_reader_first v_X_text_width v_X_text_size a_X_text_cells w1 n) x2
def g_X6_isAtHand (N_X_text_cells : Nat) (v_X_reader_place : Int32) (v_X_reader_first : Int32) (v_X_text_width : Int32) (v_X_text_size : Int32) (a_X_text_cells : Nat → Int32) (w1 : Nat) : Option (Int32) :=
  if w1 < 7 then
    (g_J0_length_8abf5 w1).bind fun v1 =>
    if v1 = (v_X_reader_place - v_X_reader_first) then (
      g_X6_isAtHand_20 N_X_text_cells v_X_reader_place v_X_reader_first v_X_text_width v_X_text_size a_X_text_cells w1 zF 0
    ) else (
      some (0)
    )
  else none
theorem hd_X6_isAtHand : yX6_isAtHand.cls = RX6 ∧ yX6_isAtHand.cls ≠ "java/lang/invoke/MethodHandle" ∧ yX6_isAtHand.cls ≠ "java/lang/invoke/VarHandle" ∧ (parseMethodDescriptor yX6_isAtHand.desc).map (fun d => d.parameters.length) = some 1 := by decide +kernel
set_option maxHeartbeats 4000000 in
set_option maxRecDepth 100000 in
theorem c_X6_isAtHand (l : Launch) (D : va_G) (cI cJ cZ cA : ClassId) (ga : Nat → Nat) (q_X_reader q_X_text q_X_text_cells : Nat) (u_X_reader_state : Value) (u_X_reader_numbers : Value) (u_X_reader_token : Value) (u_X_reader_number : Value) (u_X_text_limit : Value) (N_X_text_cells : Nat) (v_X_reader_place : Int32) (v_X_reader_first : Int32) (v_X_text_width : Int32) (v_X_text_size : Int32) (a_X_text_cells : Nat → Int32) (w1 : Nat) (o : Int32) (hg : g_X6_isAtHand N_X_text_cells v_X_reader_place v_X_reader_first v_X_text_width v_X_text_size a_X_text_cells w1 = some o) : zM l yX6_isAtHand (Cond.code yX6_isAtHand cX6_isAtHand 3 (some .boolean) :: wsL_law) rm_X6_isAtHand D (zTy cI cJ cZ cA) ga [.ref q_X_reader, .ref (ga (3 + w1))] (ws_X6_isAtHand cI cJ cZ cA q_X_reader q_X_text q_X_text_cells u_X_reader_state u_X_reader_numbers u_X_reader_token u_X_reader_number u_X_text_limit N_X_text_cells v_X_reader_place v_X_reader_first v_X_text_width v_X_text_size a_X_text_cells) (ws_X6_isAtHand cI cJ cZ cA q_X_reader q_X_text q_X_text_cells u_X_reader_state u_X_reader_numbers u_X_reader_token u_X_reader_number u_X_text_limit N_X_text_cells v_X_reader_place v_X_reader_first v_X_text_width v_X_text_size a_X_text_cells) (some (.int o)) := by
  refine zenterN (own := RX6) (by decide) rfl rfl (Nat.le_of_ble_eq_true rfl) ?_
  intro p e s m args below meth c A ls Q S hA hK hG hl hP hD hS hret0
  have hx := S.1
  have hb := S.2.1
  have ht : ∀ w, w ∈ wsL_law → w.before args s = true := fun w h => S.2.2.2.2 w (List.mem_cons_of_mem _ h)
  have hret : ∀ (r9 : Int32), (some (r9) : Option (Int32)) = some o → narrow .boolean (.int r9) = .int r9 → ∀ (H : Heap) (locs : List Loc) (pc : Nat) (ls : Array Slot), va_P D vwCl (ws_X6_isAtHand cI cJ cZ cA q_X_reader q_X_text q_X_text_cells u_X_reader_state u_X_reader_numbers u_X_reader_token u_X_reader_number u_X_text_limit N_X_text_cells v_X_reader_place v_X_reader_first v_X_text_width v_X_text_size a_X_text_cells) H → va_S A s.heap H locs → decode cX6_isAtHand pc = .ok (.ireturn, 1) → W p l e rm_X6_isAtHand s m args below meth c H locs 0 0 Q (F0 m pc ls [.int r9]) := by
    intro r9 he; cases he; exact hret0
  have hl : lv_has ls 3 [(0, .ref q_X_reader), (1, .ref (ga (3 + w1)))] := hl
  have B20 : ∀  (n : Nat) (x2 : Int32) (H : Heap) (locs : List Loc) (ls : Array Slot) (hl : lv_has ls 3 [(0, .ref q_X_reader), (1, .ref (ga (3 + w1))), (2, .int x2)]) (hP : va_P D vwCl (ws_X6_isAtHand cI cJ cZ cA q_X_reader q_X_text q_X_text_cells u_X_reader_state u_X_reader_numbers u_X_reader_token u_X_reader_number u_X_text_limit N_X_text_cells v_X_reader_place v_X_reader_first v_X_text_width v_X_text_size a_X_text_cells) H) (hD : va_D A (ws_X6_isAtHand cI cJ cZ cA q_X_reader q_X_text q_X_text_cells u_X_reader_state u_X_reader_numbers u_X_reader_token u_X_reader_number u_X_text_limit N_X_text_cells v_X_reader_place v_X_reader_first v_X_text_width v_X_text_size a_X_text_cells)) (hS : va_S A s.heap H locs), g_X6_isAtHand_20 N_X_text_cells v_X_reader_place v_X_reader_first v_X_text_width v_X_text_size a_X_text_cells w1 n x2 = some o → W p l e rm_X6_isAtHand s m args below meth c H locs 0 0 Q (F0 m 20 ls []) := by
    intro  n
    induction n with
    | zero => intro x2 H locs ls hl hP hD hS hg; exact nomatch (show (none : Option (Int32)) = some o from hg)
    | succ n ih =>
      intro x2 H locs ls hl hP hD hS hg
      have hg : g_X6_isAtHand_20b N_X_text_cells v_X_reader_place v_X_reader_first v_X_text_width v_X_text_size a_X_text_cells w1 (g_X6_isAtHand_20 N_X_text_cells v_X_reader_place v_X_reader_first v_X_text_width v_X_text_size a_X_text_cells w1 n) x2 = some o := hg
      refine lv_iload_n hx hb dX6_isAtHand_20 rfl (lv_at hl 2 rfl) ?_
      refine lv_aload_n hx hb dX6_isAtHand_21 rfl (lv_at hl 1 rfl) ?_
      obtain ⟨h6, hg⟩ := zck2 hg
      obtain ⟨v4, hc5, hg⟩ := zbd hg
      refine zcallVS (rest := [.int x2]) S (c_J0_length_8abf5 l D cI cJ cZ cA ga w1 v4 hc5) (zgV zw_387 zw_388 zw_389 zw_390 zw_391) rfl hd_J0_length_8abf5 ⟨rfl, rfl⟩ ⟨Nat.le_of_ble_eq_true rfl, Nat.le_of_ble_eq_true rfl⟩ (vk_recv (i := w1) hG.2.2.1 h6 hS) rfl hl.1 rfl (Nat.le_of_ble_eq_true rfl) dX6_isAtHand_22 hP hD hS hA hK hG (isC := []) rfl (by decide +kernel) rfl ⟨Nat.zero_le _, Nat.zero_le _⟩ (pl := [none, none, none]) (nw := 3) rfl (by decide +kernel) (w2 := (ws_X6_isAtHand cI cJ cZ cA q_X_reader q_X_text q_X_text_cells u_X_reader_state u_X_reader_numbers u_X_reader_token u_X_reader_number u_X_text_limit N_X_text_cells v_X_reader_place v_X_reader_first v_X_text_width v_X_text_size a_X_text_cells)) rfl (st1 := [.int v4, .int x2]) rfl (fun H locs hP hD hS => ?_)
      refine lv_icmp_ge (tgt := 58) hx hb dX6_isAtHand_25 (by decide) (fun h25 => ?_) (fun h25 => ?_)
      · have hg := zp hg h25
        refine lv_iconst (v := 1) hx hb dX6_isAtHand_58 (by decide) ?_
        exact hret 1 hg (zb01 (Or.inr rfl)) _ _ _ _ hP hS dX6_isAtHand_59
      · have hg := zn hg h25
        refine lv_aload_n hx hb dX6_isAtHand_28 rfl (lv_at hl 0 rfl) ?_
        refine zget (C := RX6) (T := TX6) (N := 7) S hK hP 0 rfl rfl 0 (Nat.le_of_ble_eq_true rfl) zf_6 zw_127 rfl dX6_isAtHand_29 ?_
        refine lv_aload_n hx hb dX6_isAtHand_32 rfl (lv_at hl 0 rfl) ?_
        refine zget (C := RX6) (T := TX6) (N := 7) S hK hP 0 rfl rfl 5 (Nat.le_of_ble_eq_true rfl) zf_6 zw_346 rfl dX6_isAtHand_33 ?_
        refine lv_iload_n hx hb dX6_isAtHand_36 rfl (lv_at hl 2 rfl) ?_
        refine lv_iadd hx hb dX6_isAtHand_37 ?_
        refine lv_iconst (v := 0) hx hb dX6_isAtHand_38 (by decide) ?_
        obtain ⟨v7, hc8, hg⟩ := zbd hg
        refine zcallV (rest := []) S (c_X7_at l D cI cJ cZ cA ga q_X_text q_X_text_cells u_X_text_limit N_X_text_cells v_X_text_width v_X_text_size a_X_text_cells (v_X_reader_first + x2) 0 v7 hc8) (zgV zw_352 zw_353 zw_354 zw_32 zw_355) rfl hd_X7_at ⟨rfl, rfl⟩ ⟨Nat.le_of_ble_eq_true rfl, Nat.le_of_ble_eq_true rfl⟩ 1 7 rfl rfl rfl hl.1 rfl (Nat.le_of_ble_eq_true rfl) dX6_isAtHand_39 hP hD hS hA hK hG (isC := [1, 2]) rfl (by decide +kernel) rfl ⟨Nat.zero_le _, Nat.zero_le _⟩ (pl := [none, some 0, some 1]) (nw := 3) rfl (by decide +kernel) (w2 := (ws_X6_isAtHand cI cJ cZ cA q_X_reader q_X_text q_X_text_cells u_X_reader_state u_X_reader_numbers u_X_reader_token u_X_reader_number u_X_text_limit N_X_text_cells v_X_reader_place v_X_reader_first v_X_text_width v_X_text_size a_X_text_cells)) rfl (st1 := [.int v7]) rfl (fun H locs hP hD hS => ?_)
        refine lv_aload_n hx hb dX6_isAtHand_42 rfl (lv_at hl 1 rfl) ?_
        refine lv_iload_n hx hb dX6_isAtHand_43 rfl (lv_at hl 2 rfl) ?_
        obtain ⟨h11, hg⟩ := zck2 hg
        obtain ⟨v9, hc10, hg⟩ := zbd hg
        refine zcallVS (rest := [.int v7]) S (c_J0_charAt_5068e l D cI cJ cZ cA ga w1 x2 v9 hc10) (zgV zw_399 zw_400 zw_401 zw_390 zw_402) rfl hd_J0_charAt_5068e ⟨rfl, rfl⟩ ⟨Nat.le_of_ble_eq_true rfl, Nat.le_of_ble_eq_true rfl⟩ (vk_recv (i := w1) hG.2.2.1 h11 hS) rfl hl.1 rfl (Nat.le_of_ble_eq_true rfl) dX6_isAtHand_44 hP hD hS hA hK hG (isC := []) rfl (by decide +kernel) rfl ⟨Nat.zero_le _, Nat.zero_le _⟩ (pl := [none, none, none]) (nw := 3) rfl (by decide +kernel) (w2 := (ws_X6_isAtHand cI cJ cZ cA q_X_reader q_X_text q_X_text_cells u_X_reader_state u_X_reader_numbers u_X_reader_token u_X_reader_number u_X_text_limit N_X_text_cells v_X_reader_place v_X_reader_first v_X_text_width v_X_text_size a_X_text_cells)) rfl (st1 := [.int v9, .int v7]) rfl (fun H locs hP hD hS => ?_)
        refine lv_icmp_eq (tgt := 52) hx hb dX6_isAtHand_47 (by decide) (fun h47 => ?_) (fun h47 => ?_)
        · have hg := zp hg h47
          refine lv_iinc (k := 2) (v := x2 + 1) (lv' := [(2, .int (x2 + 1)), (0, .ref q_X_reader), (1, .ref (ga (3 + w1)))]) hx hb dX6_isAtHand_52 hl rfl (zinc (by decide)) (by decide) rfl (fun ls hl => ?_)
          refine lv_goto (tgt := 20) hx hb dX6_isAtHand_55 (by decide) ?_
          exact ih (x2 + 1) _ _ _ (lv_sub hl [1, 2, 0] rfl) hP hD hS hg
        · have hg := zn hg h47
          refine lv_iconst (v := 0) hx hb dX6_isAtHand_50 (by decide) ?_
          exact hret 0 hg (zb01 (Or.inl rfl)) _ _ _ _ hP hS dX6_isAtHand_51
  refine lv_aload_n hx hb dX6_isAtHand_0 rfl (lv_at hl 1 rfl) ?_
  obtain ⟨h3, hg⟩ := zck2 hg
  obtain ⟨v1, hc2, hg⟩ := zbd hg
  refine zcallVS (rest := []) S (c_J0_length_8abf5 l D cI cJ cZ cA ga w1 v1 hc2) (zgV zw_387 zw_388 zw_389 zw_390 zw_391) rfl hd_J0_length_8abf5 ⟨rfl, rfl⟩ ⟨Nat.le_of_ble_eq_true rfl, Nat.le_of_ble_eq_true rfl⟩ (vk_recv (i := w1) hG.2.2.1 h3 hS) rfl hl.1 rfl (Nat.le_of_ble_eq_true rfl) dX6_isAtHand_1 hP hD hS hA hK hG (isC := []) rfl (by decide +kernel) rfl ⟨Nat.zero_le _, Nat.zero_le _⟩ (pl := [none, none, none]) (nw := 3) rfl (by decide +kernel) (w2 := (ws_X6_isAtHand cI cJ cZ cA q_X_reader q_X_text q_X_text_cells u_X_reader_state u_X_reader_numbers u_X_reader_token u_X_reader_number u_X_text_limit N_X_text_cells v_X_reader_place v_X_reader_first v_X_text_width v_X_text_size a_X_text_cells)) rfl (st1 := [.int v1]) rfl (fun H locs hP hD hS => ?_)
  refine lv_aload_n hx hb dX6_isAtHand_4 rfl (lv_at hl 0 rfl) ?_
  refine zget (C := RX6) (T := TX6) (N := 7) S hK hP 0 rfl rfl 3 (Nat.le_of_ble_eq_true rfl) zf_6 zw_344 rfl dX6_isAtHand_5 ?_
  refine lv_aload_n hx hb dX6_isAtHand_8 rfl (lv_at hl 0 rfl) ?_
  refine zget (C := RX6) (T := TX6) (N := 7) S hK hP 0 rfl rfl 5 (Nat.le_of_ble_eq_true rfl) zf_6 zw_346 rfl dX6_isAtHand_9 ?_
  refine lv_isub hx hb dX6_isAtHand_12 ?_
  refine lv_icmp_eq (tgt := 18) hx hb dX6_isAtHand_13 (by decide) (fun h13 => ?_) (fun h13 => ?_)
  · have hg := zp hg h13
    refine lv_iconst (v := 0) hx hb dX6_isAtHand_18 (by decide) ?_
    refine lv_istore_n (lv' := [(2, .int 0), (0, .ref q_X_reader), (1, .ref (ga (3 + w1)))]) hx hb dX6_isAtHand_19 rfl hl (by decide) rfl (fun ls hl => ?_)
    exact B20 zF 0 _ _ _ (lv_sub hl [1, 2, 0] rfl) hP hD hS hg
  · have hg := zn hg h13
    refine lv_iconst (v := 0) hx hb dX6_isAtHand_16 (by decide) ?_
    exact hret 0 hg (zb01 (Or.inl rfl)) _ _ _ _ hP hS dX6_isAtHand_17

/-! SpokenClock$Reader.wordOf(I)Ljava/lang/String; -/
abbrev ws_X6_wordOf (cI cJ cZ cA : ClassId) : va_W := []
abbrev rm_X6_wordOf : Room := { frames := 0, cells := 0, slots := 0, locals := 0 }
def g_X6_wordOf (x0 : Int32) : Option (Nat) :=
  if x0 = 0 then (
    some (0)
  ) else
  if x0 = 1 then (
    some (1)
  ) else
  if x0 = 2 then (
    some (2)
  ) else
  if x0 = 3 then (
    some (3)
  ) else
  if x0 = 4 then (
    some (4)
  ) else
  if x0 = 5 then (
    some (5)
  ) else
  (
    some (6)
  )
theorem hd_X6_wordOf : yX6_wordOf.cls ≠ "java/lang/invoke/MethodHandle" ∧ yX6_wordOf.cls ≠ "java/lang/invoke/VarHandle" ∧ (parseMethodDescriptor yX6_wordOf.desc).map (fun d => d.parameters.length) = some 1 := by decide +kernel
set_option maxHeartbeats 4000000 in
set_option maxRecDepth 100000 in
theorem c_X6_wordOf (l : Launch) (D : va_G) (cI cJ cZ cA : ClassId) (ga : Nat → Nat) (x0 : Int32) (o : Nat) (hg : g_X6_wordOf x0 = some o) : zM l yX6_wordOf (Cond.code yX6_wordOf cX6_wordOf 1 (some (.object "java/lang/String")) :: wsL_law) rm_X6_wordOf D (zTy cI cJ cZ cA) ga [.int x0] (ws_X6_wordOf cI cJ cZ cA) (ws_X6_wordOf cI cJ cZ cA) (some (.ref (ga (3 + o)))) := by
  refine zenterA (own := RX6) (by decide) rfl rfl (Nat.le_of_ble_eq_true rfl) ?_
  intro p e s m args below meth c A ls Q S hA hK hG hl hP hD hS hret0
  have hx := S.1
  have hb := S.2.1
  have ht : ∀ w, w ∈ wsL_law → w.before args s = true := fun w h => S.2.2.2.2 w (List.mem_cons_of_mem _ h)
  have hret : ∀ (r9 : Nat), (some (r9) : Option (Nat)) = some o → ∀ (H : Heap) (locs : List Loc) (pc : Nat) (ls : Array Slot), va_P D vwCl (ws_X6_wordOf cI cJ cZ cA) H → va_S A s.heap H locs → decode cX6_wordOf pc = .ok (.areturn, 1) → W p l e rm_X6_wordOf s m args below meth c H locs 0 0 Q (F0 m pc ls [.ref (ga (3 + r9))]) := by
    intro r9 he; cases he; exact hret0
  have hl : lv_has ls 1 [(0, .int x0)] := hl
  refine lv_iload_n hx hb dX6_wordOf_0 rfl (lv_at hl 0 rfl) ?_
  by_cases h1_0 : x0 = 0
  · have hg := zp hg h1_0
    refine lv_tableIn (tgt := 40) hx hb dX6_wordOf_1 (by rw [h1_0]; decide) (by rw [h1_0]; decide) (by rw [h1_0]; rfl) (by decide) ?_
    refine va_ldcS hx hb S.2.2.2.1 hG.1.2.2.1 dX6_wordOf_40 ?_
    exact hret 0 hg _ _ _ _ hP hS dX6_wordOf_42
  · have hg := zn hg h1_0
    by_cases h1_1 : x0 = 1
    · have hg := zp hg h1_1
      refine lv_tableIn (tgt := 43) hx hb dX6_wordOf_1 (by rw [h1_1]; decide) (by rw [h1_1]; decide) (by rw [h1_1]; rfl) (by decide) ?_
      refine va_ldcS hx hb S.2.2.2.1 hG.1.2.2.2.1 dX6_wordOf_43 ?_
      exact hret 1 hg _ _ _ _ hP hS dX6_wordOf_45
    · have hg := zn hg h1_1
      by_cases h1_2 : x0 = 2
      · have hg := zp hg h1_2
        refine lv_tableIn (tgt := 46) hx hb dX6_wordOf_1 (by rw [h1_2]; decide) (by rw [h1_2]; decide) (by rw [h1_2]; rfl) (by decide) ?_
        refine va_ldcS hx hb S.2.2.2.1 hG.1.2.2.2.2.1 dX6_wordOf_46 ?_
        exact hret 2 hg _ _ _ _ hP hS dX6_wordOf_48
      · have hg := zn hg h1_2
        by_cases h1_3 : x0 = 3
        · have hg := zp hg h1_3
          refine lv_tableIn (tgt := 49) hx hb dX6_wordOf_1 (by rw [h1_3]; decide) (by rw [h1_3]; decide) (by rw [h1_3]; rfl) (by decide) ?_
          refine va_ldcS hx hb S.2.2.2.1 hG.1.2.2.2.2.2.1 dX6_wordOf_49 ?_
          exact hret 3 hg _ _ _ _ hP hS dX6_wordOf_51
        · have hg := zn hg h1_3
          by_cases h1_4 : x0 = 4
          · have hg := zp hg h1_4
            refine lv_tableIn (tgt := 52) hx hb dX6_wordOf_1 (by rw [h1_4]; decide) (by rw [h1_4]; decide) (by rw [h1_4]; rfl) (by decide) ?_
            refine va_ldcS hx hb S.2.2.2.1 hG.1.2.2.2.2.2.2.1 dX6_wordOf_52 ?_
            exact hret 4 hg _ _ _ _ hP hS dX6_wordOf_54
          · have hg := zn hg h1_4
            by_cases h1_5 : x0 = 5
            · have hg := zp hg h1_5
              refine lv_tableIn (tgt := 55) hx hb dX6_wordOf_1 (by rw [h1_5]; decide) (by rw [h1_5]; decide) (by rw [h1_5]; rfl) (by decide) ?_
              refine va_ldcS hx hb S.2.2.2.1 hG.1.2.2.2.2.2.2.2.1 dX6_wordOf_55 ?_
              exact hret 5 hg _ _ _ _ hP hS dX6_wordOf_57
            · have hg := zn hg h1_5
              refine lv_tableOut (tgt := 58) hx hb dX6_wordOf_1 (by have a0 := lv_neT h1_0 (a := 0) (by decide); have a1 := lv_neT h1_1 (a := 1) (by decide); have a2 := lv_neT h1_2 (a := 2) (by decide); have a3 := lv_neT h1_3 (a := 3) (by decide); have a4 := lv_neT h1_4 (a := 4) (by decide); have a5 := lv_neT h1_5 (a := 5) (by decide); omega) (by decide) ?_
              refine va_ldcS hx hb S.2.2.2.1 hG.1.2.2.2.2.2.2.2.2 dX6_wordOf_58 ?_
              exact hret 6 hg _ _ _ _ hP hS dX6_wordOf_60

/-! SpokenClock$Reader.itemAtHand()I -/
abbrev ws_X6_itemAtHand (cI cJ cZ cA : ClassId) (q_X_reader q_X_text q_X_text_cells : Nat) (u_X_reader_state : Value) (u_X_reader_numbers : Value) (u_X_reader_token : Value) (u_X_reader_number : Value) (u_X_text_limit : Value) (N_X_text_cells : Nat) (v_X_reader_place : Int32) (v_X_reader_first : Int32) (v_X_text_width : Int32) (v_X_text_size : Int32) (a_X_text_cells : Nat → Int32) : va_W := [(q_X_reader, .inr (6, [.ref q_X_text, u_X_reader_state, u_X_reader_numbers, .int v_X_reader_place, u_X_reader_token, .int v_X_reader_first, u_X_reader_number])), (q_X_text, .inr (7, [.int v_X_text_width, u_X_text_limit, .ref q_X_text_cells, .int v_X_text_size])), (q_X_text_cells, .inl (cI, N_X_text_cells, .inl a_X_text_cells))]
abbrev rm_X6_itemAtHand : Room := { frames := 5, cells := 0, slots := 0, locals := 107 }
def g_X6_itemAtHand_2b (N_X_text_cells : Nat) (v_X_reader_place : Int32) (v_X_reader_first : Int32) (v_X_text_width : Int32) (v_X_text_size : Int32) (a_X_text_cells : Nat → Int32) (k2 : Int32 → Option (Int32)) (x1 : Int32) : Option (Int32) :=
  if 7 ≤ x1 then (
    some ((-1))
  ) else (
    (g_X6_wordOf x1).bind fun v1 =>
    (g_X6_isAtHand N_X_text_cells v_X_reader_place v_X_reader_first v_X_text_width v_X_text_size a_X_text_cells v1).bind fun v3 =>
    if v3 = 0 then (
      k2 (x1 + 1)
    ) else (
      some (x1)
    )
  )
def g_X6_itemAtHand_2 (N_X_text_cells : Nat) (v_X_reader_place : Int32) (v_X_reader_first : Int32) (v_X_text_width : Int32) (v_X_text_size : Int32) (a_X_text_cells : Nat → Int32) : Nat → Int32 → Option (Int32)
  | 0, _ => none
  | n + 1, x1 => g_X6_itemAtHand_2b N_X_text_cells v_X_reader_place v_X_reader_first v_X_text_width v_X_text_size a_X_text_cells (g_X6_itemAtHand_2 N_X_text_cells v_X_reader_place v_X_reader_first v_X_text_width v_X_text_size a_X_text_cells n) x1
def g_X6_itemAtHand (N_X_text_cells : Nat) (v_X_reader_place : Int32) (v_X_reader_first : Int32) (v_X_text_width : Int32) (v_X_text_size : Int32) (a_X_text_cells : Nat → Int32) : Option (Int32) :=
  g_X6_itemAtHand_2 N_X_text_cells v_X_reader_place v_X_reader_first v_X_text_width v_X_text_size a_X_text_cells zF 0
theorem hd_X6_itemAtHand : yX6_itemAtHand.cls = RX6 ∧ yX6_itemAtHand.cls ≠ "java/lang/invoke/MethodHandle" ∧ yX6_itemAtHand.cls ≠ "java/lang/invoke/VarHandle" ∧ (parseMethodDescriptor yX6_itemAtHand.desc).map (fun d => d.parameters.length) = some 0 := by decide +kernel
set_option maxHeartbeats 4000000 in
set_option maxRecDepth 100000 in
theorem c_X6_itemAtHand (l : Launch) (D : va_G) (cI cJ cZ cA : ClassId) (ga : Nat → Nat) (q_X_reader q_X_text q_X_text_cells : Nat) (u_X_reader_state : Value) (u_X_reader_numbers : Value) (u_X_reader_token : Value) (u_X_reader_number : Value) (u_X_text_limit : Value) (N_X_text_cells : Nat) (v_X_reader_place : Int32) (v_X_reader_first : Int32) (v_X_text_width : Int32) (v_X_text_size : Int32) (a_X_text_cells : Nat → Int32) (o : Int32) (hg : g_X6_itemAtHand N_X_text_cells v_X_reader_place v_X_reader_first v_X_text_width v_X_text_size a_X_text_cells = some o) : zM l yX6_itemAtHand (Cond.code yX6_itemAtHand cX6_itemAtHand 2 (some .int) :: wsL_law) rm_X6_itemAtHand D (zTy cI cJ cZ cA) ga [.ref q_X_reader] (ws_X6_itemAtHand cI cJ cZ cA q_X_reader q_X_text q_X_text_cells u_X_reader_state u_X_reader_numbers u_X_reader_token u_X_reader_number u_X_text_limit N_X_text_cells v_X_reader_place v_X_reader_first v_X_text_width v_X_text_size a_X_text_cells) (ws_X6_itemAtHand cI cJ cZ cA q_X_reader q_X_text q_X_text_cells u_X_reader_state u_X_reader_numbers u_X_reader_token u_X_reader_number u_X_text_limit N_X_text_cells v_X_reader_place v_X_reader_first v_X_text_width v_X_text_size a_X_text_cells) (some (.int o)) := by
  refine zenterI (own := RX6) (by decide) rfl rfl (Nat.le_of_ble_eq_true rfl) ?_
  intro p e s m args below meth c A ls Q S hA hK hG hl hP hD hS hret0
  have hx := S.1
  have hb := S.2.1
  have ht : ∀ w, w ∈ wsL_law → w.before args s = true := fun w h => S.2.2.2.2 w (List.mem_cons_of_mem _ h)
  have hret : ∀ (r9 : Int32), (some (r9) : Option (Int32)) = some o → ∀ (H : Heap) (locs : List Loc) (pc : Nat) (ls : Array Slot), va_P D vwCl (ws_X6_itemAtHand cI cJ cZ cA q_X_reader q_X_text q_X_text_cells u_X_reader_state u_X_reader_numbers u_X_reader_token u_X_reader_number u_X_text_limit N_X_text_cells v_X_reader_place v_X_reader_first v_X_text_width v_X_text_size a_X_text_cells) H → va_S A s.heap H locs → decode cX6_itemAtHand pc = .ok (.ireturn, 1) → W p l e rm_X6_itemAtHand s m args below meth c H locs 0 0 Q (F0 m pc ls [.int r9]) := by
    intro r9 he; cases he; exact hret0
  have hl : lv_has ls 2 [(0, .ref q_X_reader)] := hl
  have B2 : ∀  (n : Nat) (x1 : Int32) (H : Heap) (locs : List Loc) (ls : Array Slot) (hl : lv_has ls 2 [(0, .ref q_X_reader), (1, .int x1)]) (hP : va_P D vwCl (ws_X6_itemAtHand cI cJ cZ cA q_X_reader q_X_text q_X_text_cells u_X_reader_state u_X_reader_numbers u_X_reader_token u_X_reader_number u_X_text_limit N_X_text_cells v_X_reader_place v_X_reader_first v_X_text_width v_X_text_size a_X_text_cells) H) (hD : va_D A (ws_X6_itemAtHand cI cJ cZ cA q_X_reader q_X_text q_X_text_cells u_X_reader_state u_X_reader_numbers u_X_reader_token u_X_reader_number u_X_text_limit N_X_text_cells v_X_reader_place v_X_reader_first v_X_text_width v_X_text_size a_X_text_cells)) (hS : va_S A s.heap H locs), g_X6_itemAtHand_2 N_X_text_cells v_X_reader_place v_X_reader_first v_X_text_width v_X_text_size a_X_text_cells n x1 = some o → W p l e rm_X6_itemAtHand s m args below meth c H locs 0 0 Q (F0 m 2 ls []) := by
    intro  n
    induction n with
    | zero => intro x1 H locs ls hl hP hD hS hg; exact nomatch (show (none : Option (Int32)) = some o from hg)
    | succ n ih =>
      intro x1 H locs ls hl hP hD hS hg
      have hg : g_X6_itemAtHand_2b N_X_text_cells v_X_reader_place v_X_reader_first v_X_text_width v_X_text_size a_X_text_cells (g_X6_itemAtHand_2 N_X_text_cells v_X_reader_place v_X_reader_first v_X_text_width v_X_text_size a_X_text_cells n) x1 = some o := hg
      refine lv_iload_n hx hb dX6_itemAtHand_2 rfl (lv_at hl 1 rfl) ?_
      refine lv_bipush (v := 7) hx hb dX6_itemAtHand_3 (by decide) ?_
      refine lv_icmp_ge (tgt := 27) hx hb dX6_itemAtHand_5 (by decide) (fun h5 => ?_) (fun h5 => ?_)
      · have hg := zp hg h5
        refine lv_iconst (v := (-1)) hx hb dX6_itemAtHand_27 (by decide) ?_
        exact hret (-1) hg _ _ _ _ hP hS dX6_itemAtHand_28
      · have hg := zn hg h5
        refine lv_aload_n hx hb dX6_itemAtHand_8 rfl (lv_at hl 0 rfl) ?_
        refine lv_iload_n hx hb dX6_itemAtHand_9 rfl (lv_at hl 1 rfl) ?_
        obtain ⟨v1, hc2, hg⟩ := zbd hg
        refine zcallS (rest := [.ref q_X_reader]) S (c_X6_wordOf l D cI cJ cZ cA ga x1 v1 hc2) (zgS zw_380 zw_381 zw_41 zw_382) rfl hd_X6_wordOf ⟨rfl, rfl⟩ ⟨Nat.le_of_ble_eq_true rfl, Nat.le_of_ble_eq_true rfl⟩ rfl hl.1 rfl (Nat.le_of_ble_eq_true rfl) dX6_itemAtHand_10 hP hD hS hA hK hG (isC := []) rfl (by decide +kernel) rfl ⟨Nat.zero_le _, Nat.zero_le _⟩ (pl := [none, none, none]) (nw := 3) rfl (by decide +kernel) (w2 := (ws_X6_itemAtHand cI cJ cZ cA q_X_reader q_X_text q_X_text_cells u_X_reader_state u_X_reader_numbers u_X_reader_token u_X_reader_number u_X_text_limit N_X_text_cells v_X_reader_place v_X_reader_first v_X_text_width v_X_text_size a_X_text_cells)) rfl (st1 := [.ref (ga (3 + v1)), .ref q_X_reader]) rfl (fun H locs hP hD hS => ?_)
        obtain ⟨v3, hc4, hg⟩ := zbd hg
        refine zcallV (rest := []) S (c_X6_isAtHand l D cI cJ cZ cA ga q_X_reader q_X_text q_X_text_cells u_X_reader_state u_X_reader_numbers u_X_reader_token u_X_reader_number u_X_text_limit N_X_text_cells v_X_reader_place v_X_reader_first v_X_text_width v_X_text_size a_X_text_cells v1 v3 hc4) (zgV zw_383 zw_384 zw_385 zw_41 zw_386) rfl hd_X6_isAtHand ⟨rfl, rfl⟩ ⟨Nat.le_of_ble_eq_true rfl, Nat.le_of_ble_eq_true rfl⟩ 0 6 rfl rfl rfl hl.1 rfl (Nat.le_of_ble_eq_true rfl) dX6_itemAtHand_13 hP hD hS hA hK hG (isC := [0, 1, 2]) rfl (by decide +kernel) rfl ⟨Nat.zero_le _, Nat.zero_le _⟩ (pl := [some 0, some 1, some 2]) (nw := 3) rfl (by decide +kernel) (w2 := (ws_X6_itemAtHand cI cJ cZ cA q_X_reader q_X_text q_X_text_cells u_X_reader_state u_X_reader_numbers u_X_reader_token u_X_reader_number u_X_text_limit N_X_text_cells v_X_reader_place v_X_reader_first v_X_text_width v_X_text_size a_X_text_cells)) rfl (st1 := [.int v3]) rfl (fun H locs hP hD hS => ?_)
        refine lv_if_eq (tgt := 21) hx hb dX6_itemAtHand_16 (by decide) (fun h16 => ?_) (fun h16 => ?_)
        · have hg := zp hg h16
          refine lv_iinc (k := 1) (v := x1 + 1) (lv' := [(1, .int (x1 + 1)), (0, .ref q_X_reader)]) hx hb dX6_itemAtHand_21 hl rfl (zinc (by decide)) (by decide) rfl (fun ls hl => ?_)
          refine lv_goto (tgt := 2) hx hb dX6_itemAtHand_24 (by decide) ?_
          exact ih (x1 + 1) _ _ _ (lv_sub hl [1, 0] rfl) hP hD hS hg
        · have hg := zn hg h16
          refine lv_iload_n hx hb dX6_itemAtHand_19 rfl (lv_at hl 1 rfl) ?_
          exact hret x1 hg _ _ _ _ hP hS dX6_itemAtHand_20
  refine lv_iconst (v := 0) hx hb dX6_itemAtHand_0 (by decide) ?_
  refine lv_istore_n (lv' := [(1, .int 0), (0, .ref q_X_reader)]) hx hb dX6_itemAtHand_1 rfl hl (by decide) rfl (fun ls hl => ?_)
  exact B2 zF 0 _ _ _ (lv_sub hl [1, 0] rfl) hP hD hS hg

/-! SpokenClock$Reader.keep(I)V -/
abbrev ws_X6_keep (cI cJ cZ cA : ClassId) (q_X_reader q_X_draft q_X_draft_talks q_X_draft_dues q_X_draft_sights q_X_draft_people q_X_reader_numbers q_X_draft_talks_cells q_X_draft_dues_cells q_X_draft_sights_cells q_X_draft_people_cells q_X_draft_settings : Nat) (u_X_reader_text : Value) (u_X_reader_place : Value) (u_X_reader_token : Value) (u_X_reader_first : Value) (u_X_reader_number : Value) (u_X_draft_rule : Value) (u_X_draft_stake : Value) (N_X_draft_talks_cells : Nat) (N_X_draft_dues_cells : Nat) (N_X_draft_sights_cells : Nat) (N_X_draft_people_cells : Nat) (a_X_reader_numbers : Nat → Int32) (v_X_draft_talks_width : Int32) (v_X_draft_talks_limit : Int32) (v_X_draft_talks_size : Int32) (a_X_draft_talks_cells : Nat → Int32) (v_X_draft_dues_width : Int32) (v_X_draft_dues_limit : Int32) (v_X_draft_dues_size : Int32) (a_X_draft_dues_cells : Nat → Int32) (v_X_draft_sights_width : Int32) (v_X_draft_sights_limit : Int32) (v_X_draft_sights_size : Int32) (a_X_draft_sights_cells : Nat → Int32) (v_X_draft_people_width : Int32) (v_X_draft_people_limit : Int32) (v_X_draft_people_size : Int32) (a_X_draft_people_cells : Nat → Int32) (a_X_draft_settings : Nat → Int32) : va_W := [(q_X_reader, .inr (6, [u_X_reader_text, .ref q_X_draft, .ref q_X_reader_numbers, u_X_reader_place, u_X_reader_token, u_X_reader_first, u_X_reader_number])), (q_X_draft, .inr (9, [.ref q_X_draft_people, .ref q_X_draft_talks, .ref q_X_draft_dues, .ref q_X_draft_sights, u_X_draft_rule, .ref q_X_draft_settings, u_X_draft_stake])), (q_X_reader_numbers, .inl (cI, 3, .inl a_X_reader_numbers)), (q_X_draft_talks, .inr (7, [.int v_X_draft_talks_width, .int v_X_draft_talks_limit, .ref q_X_draft_talks_cells, .int v_X_draft_talks_size])), (q_X_draft_talks_cells, .inl (cI, N_X_draft_talks_cells, .inl a_X_draft_talks_cells)), (q_X_draft_dues, .inr (7, [.int v_X_draft_dues_width, .int v_X_draft_dues_limit, .ref q_X_draft_dues_cells, .int v_X_draft_dues_size])), (q_X_draft_dues_cells, .inl (cI, N_X_draft_dues_cells, .inl a_X_draft_dues_cells)), (q_X_draft_sights, .inr (7, [.int v_X_draft_sights_width, .int v_X_draft_sights_limit, .ref q_X_draft_sights_cells, .int v_X_draft_sights_size])), (q_X_draft_sights_cells, .inl (cI, N_X_draft_sights_cells, .inl a_X_draft_sights_cells)), (q_X_draft_people, .inr (7, [.int v_X_draft_people_width, .int v_X_draft_people_limit, .ref q_X_draft_people_cells, .int v_X_draft_people_size])), (q_X_draft_people_cells, .inl (cI, N_X_draft_people_cells, .inl a_X_draft_people_cells)), (q_X_draft_settings, .inl (cI, 3, .inl a_X_draft_settings))]
abbrev rm_X6_keep : Room := { frames := 2, cells := 0, slots := 0, locals := 44 }
def g_X6_keep (N_X_draft_talks_cells : Nat) (N_X_draft_dues_cells : Nat) (N_X_draft_sights_cells : Nat) (N_X_draft_people_cells : Nat) (a_X_reader_numbers : Nat → Int32) (v_X_draft_talks_width : Int32) (v_X_draft_talks_limit : Int32) (v_X_draft_dues_width : Int32) (v_X_draft_dues_limit : Int32) (v_X_draft_sights_width : Int32) (v_X_draft_sights_limit : Int32) (v_X_draft_people_width : Int32) (v_X_draft_people_limit : Int32) (x1 : Int32) (v_X_draft_talks_size : Int32) (a_X_draft_talks_cells : Nat → Int32) (v_X_draft_dues_size : Int32) (a_X_draft_dues_cells : Nat → Int32) (v_X_draft_sights_size : Int32) (a_X_draft_sights_cells : Nat → Int32) (v_X_draft_people_size : Int32) (a_X_draft_people_cells : Nat → Int32) (a_X_draft_settings : Nat → Int32) : Option (Int32 × (Nat → Int32) × Int32 × (Nat → Int32) × Int32 × (Nat → Int32) × Int32 × (Nat → Int32) × (Nat → Int32)) :=
  if 3 ≤ x1 then (
    (g_X9_rowsOf x1).bind fun v1 =>
    if v1 = 0 then (
      (g_X7_add N_X_draft_talks_cells v_X_draft_talks_width v_X_draft_talks_limit (a_X_reader_numbers 0) (a_X_reader_numbers 1) (a_X_reader_numbers 2) v_X_draft_talks_size a_X_draft_talks_cells).bind fun v3 =>
      some (v3.2.1, v3.2.2, v_X_draft_dues_size, a_X_draft_dues_cells, v_X_draft_sights_size, a_X_draft_sights_cells, v_X_draft_people_size, a_X_draft_people_cells, a_X_draft_settings)
    ) else
    if v1 = 1 then (
      (g_X7_add N_X_draft_dues_cells v_X_draft_dues_width v_X_draft_dues_limit (a_X_reader_numbers 0) (a_X_reader_numbers 1) (a_X_reader_numbers 2) v_X_draft_dues_size a_X_draft_dues_cells).bind fun v5 =>
      some (v_X_draft_talks_size, a_X_draft_talks_cells, v5.2.1, v5.2.2, v_X_draft_sights_size, a_X_draft_sights_cells, v_X_draft_people_size, a_X_draft_people_cells, a_X_draft_settings)
    ) else
    if v1 = 2 then (
      (g_X7_add N_X_draft_sights_cells v_X_draft_sights_width v_X_draft_sights_limit (a_X_reader_numbers 0) (a_X_reader_numbers 1) (a_X_reader_numbers 2) v_X_draft_sights_size a_X_draft_sights_cells).bind fun v7 =>
      some (v_X_draft_talks_size, a_X_draft_talks_cells, v_X_draft_dues_size, a_X_draft_dues_cells, v7.2.1, v7.2.2, v_X_draft_people_size, a_X_draft_people_cells, a_X_draft_settings)
    ) else
    if v1 = 3 then (
      (g_X7_add N_X_draft_people_cells v_X_draft_people_width v_X_draft_people_limit (a_X_reader_numbers 0) (a_X_reader_numbers 1) (a_X_reader_numbers 2) v_X_draft_people_size a_X_draft_people_cells).bind fun v9 =>
      some (v_X_draft_talks_size, a_X_draft_talks_cells, v_X_draft_dues_size, a_X_draft_dues_cells, v_X_draft_sights_size, a_X_draft_sights_cells, v9.2.1, v9.2.2, a_X_draft_settings)
    ) else
    none
  ) else (
    if x1 < 0 ∨ 3 ≤ x1.toNatClampNeg then none else
    some (v_X_draft_talks_size, a_X_draft_talks_cells, v_X_draft_dues_size, a_X_draft_dues_cells, v_X_draft_sights_size, a_X_draft_sights_cells, v_X_draft_people_size, a_X_draft_people_cells, upd a_X_draft_settings (x1.toNatClampNeg) (a_X_reader_numbers 0))
  )
theorem hd_X6_keep : yX6_keep.cls = RX6 ∧ yX6_keep.cls ≠ "java/lang/invoke/MethodHandle" ∧ yX6_keep.cls ≠ "java/lang/invoke/VarHandle" ∧ (parseMethodDescriptor yX6_keep.desc).map (fun d => d.parameters.length) = some 1 := by decide +kernel
set_option maxHeartbeats 4000000 in
set_option maxRecDepth 100000 in
theorem c_X6_keep (l : Launch) (D : va_G) (cI cJ cZ cA : ClassId) (ga : Nat → Nat) (q_X_reader q_X_draft q_X_draft_talks q_X_draft_dues q_X_draft_sights q_X_draft_people q_X_reader_numbers q_X_draft_talks_cells q_X_draft_dues_cells q_X_draft_sights_cells q_X_draft_people_cells q_X_draft_settings : Nat) (u_X_reader_text : Value) (u_X_reader_place : Value) (u_X_reader_token : Value) (u_X_reader_first : Value) (u_X_reader_number : Value) (u_X_draft_rule : Value) (u_X_draft_stake : Value) (N_X_draft_talks_cells : Nat) (N_X_draft_dues_cells : Nat) (N_X_draft_sights_cells : Nat) (N_X_draft_people_cells : Nat) (a_X_reader_numbers : Nat → Int32) (v_X_draft_talks_width : Int32) (v_X_draft_talks_limit : Int32) (v_X_draft_talks_size : Int32) (a_X_draft_talks_cells : Nat → Int32) (v_X_draft_dues_width : Int32) (v_X_draft_dues_limit : Int32) (v_X_draft_dues_size : Int32) (a_X_draft_dues_cells : Nat → Int32) (v_X_draft_sights_width : Int32) (v_X_draft_sights_limit : Int32) (v_X_draft_sights_size : Int32) (a_X_draft_sights_cells : Nat → Int32) (v_X_draft_people_width : Int32) (v_X_draft_people_limit : Int32) (v_X_draft_people_size : Int32) (a_X_draft_people_cells : Nat → Int32) (a_X_draft_settings : Nat → Int32) (x1 : Int32) (o : Int32 × (Nat → Int32) × Int32 × (Nat → Int32) × Int32 × (Nat → Int32) × Int32 × (Nat → Int32) × (Nat → Int32)) (hg : g_X6_keep N_X_draft_talks_cells N_X_draft_dues_cells N_X_draft_sights_cells N_X_draft_people_cells a_X_reader_numbers v_X_draft_talks_width v_X_draft_talks_limit v_X_draft_dues_width v_X_draft_dues_limit v_X_draft_sights_width v_X_draft_sights_limit v_X_draft_people_width v_X_draft_people_limit x1 v_X_draft_talks_size a_X_draft_talks_cells v_X_draft_dues_size a_X_draft_dues_cells v_X_draft_sights_size a_X_draft_sights_cells v_X_draft_people_size a_X_draft_people_cells a_X_draft_settings = some o) : zM l yX6_keep (Cond.code yX6_keep cX6_keep 2 none :: wsL_law) rm_X6_keep D (zTy cI cJ cZ cA) ga [.ref q_X_reader, .int x1] (ws_X6_keep cI cJ cZ cA q_X_reader q_X_draft q_X_draft_talks q_X_draft_dues q_X_draft_sights q_X_draft_people q_X_reader_numbers q_X_draft_talks_cells q_X_draft_dues_cells q_X_draft_sights_cells q_X_draft_people_cells q_X_draft_settings u_X_reader_text u_X_reader_place u_X_reader_token u_X_reader_first u_X_reader_number u_X_draft_rule u_X_draft_stake N_X_draft_talks_cells N_X_draft_dues_cells N_X_draft_sights_cells N_X_draft_people_cells a_X_reader_numbers v_X_draft_talks_width v_X_draft_talks_limit v_X_draft_talks_size a_X_draft_talks_cells v_X_draft_dues_width v_X_draft_dues_limit v_X_draft_dues_size a_X_draft_dues_cells v_X_draft_sights_width v_X_draft_sights_limit v_X_draft_sights_size a_X_draft_sights_cells v_X_draft_people_width v_X_draft_people_limit v_X_draft_people_size a_X_draft_people_cells a_X_draft_settings) (ws_X6_keep cI cJ cZ cA q_X_reader q_X_draft q_X_draft_talks q_X_draft_dues q_X_draft_sights q_X_draft_people q_X_reader_numbers q_X_draft_talks_cells q_X_draft_dues_cells q_X_draft_sights_cells q_X_draft_people_cells q_X_draft_settings u_X_reader_text u_X_reader_place u_X_reader_token u_X_reader_first u_X_reader_number u_X_draft_rule u_X_draft_stake N_X_draft_talks_cells N_X_draft_dues_cells N_X_draft_sights_cells N_X_draft_people_cells a_X_reader_numbers v_X_draft_talks_width v_X_draft_talks_limit o.1 o.2.1 v_X_draft_dues_width v_X_draft_dues_limit o.2.2.1 o.2.2.2.1 v_X_draft_sights_width v_X_draft_sights_limit o.2.2.2.2.1 o.2.2.2.2.2.1 v_X_draft_people_width v_X_draft_people_limit o.2.2.2.2.2.2.1 o.2.2.2.2.2.2.2.1 o.2.2.2.2.2.2.2.2) none := by
  refine zenterV (own := RX6) (by decide) rfl rfl (Nat.le_of_ble_eq_true rfl) ?_
  intro p e s m args below meth c A ls Q S hA hK hG hl hP hD hS hret0
  have hx := S.1
  have hb := S.2.1
  have ht : ∀ w, w ∈ wsL_law → w.before args s = true := fun w h => S.2.2.2.2 w (List.mem_cons_of_mem _ h)
  have hret : ∀ (v_X_draft_talks_size : Int32) (a_X_draft_talks_cells : Nat → Int32) (v_X_draft_dues_size : Int32) (a_X_draft_dues_cells : Nat → Int32) (v_X_draft_sights_size : Int32) (a_X_draft_sights_cells : Nat → Int32) (v_X_draft_people_size : Int32) (a_X_draft_people_cells : Nat → Int32) (a_X_draft_settings : Nat → Int32), (some (v_X_draft_talks_size, a_X_draft_talks_cells, v_X_draft_dues_size, a_X_draft_dues_cells, v_X_draft_sights_size, a_X_draft_sights_cells, v_X_draft_people_size, a_X_draft_people_cells, a_X_draft_settings) : Option (Int32 × (Nat → Int32) × Int32 × (Nat → Int32) × Int32 × (Nat → Int32) × Int32 × (Nat → Int32) × (Nat → Int32))) = some o → ∀ (H : Heap) (locs : List Loc) (pc : Nat) (ls : Array Slot), va_P D vwCl (ws_X6_keep cI cJ cZ cA q_X_reader q_X_draft q_X_draft_talks q_X_draft_dues q_X_draft_sights q_X_draft_people q_X_reader_numbers q_X_draft_talks_cells q_X_draft_dues_cells q_X_draft_sights_cells q_X_draft_people_cells q_X_draft_settings u_X_reader_text u_X_reader_place u_X_reader_token u_X_reader_first u_X_reader_number u_X_draft_rule u_X_draft_stake N_X_draft_talks_cells N_X_draft_dues_cells N_X_draft_sights_cells N_X_draft_people_cells a_X_reader_numbers v_X_draft_talks_width v_X_draft_talks_limit v_X_draft_talks_size a_X_draft_talks_cells v_X_draft_dues_width v_X_draft_dues_limit v_X_draft_dues_size a_X_draft_dues_cells v_X_draft_sights_width v_X_draft_sights_limit v_X_draft_sights_size a_X_draft_sights_cells v_X_draft_people_width v_X_draft_people_limit v_X_draft_people_size a_X_draft_people_cells a_X_draft_settings) H → va_S A s.heap H locs → decode cX6_keep pc = .ok (.return_, 1) → W p l e rm_X6_keep s m args below meth c H locs 0 0 Q (F0 m pc ls []) := by
    intro v_X_draft_talks_size a_X_draft_talks_cells v_X_draft_dues_size a_X_draft_dues_cells v_X_draft_sights_size a_X_draft_sights_cells v_X_draft_people_size a_X_draft_people_cells a_X_draft_settings he; cases he; exact hret0
  have hl : lv_has ls 2 [(0, .ref q_X_reader), (1, .int x1)] := hl
  refine lv_iload_n hx hb dX6_keep_0 rfl (lv_at hl 1 rfl) ?_
  refine lv_iconst (v := 3) hx hb dX6_keep_1 (by decide) ?_
  refine lv_icmp_ge (tgt := 23) hx hb dX6_keep_2 (by decide) (fun h2 => ?_) (fun h2 => ?_)
  · have hg := zp hg h2
    refine lv_aload_n hx hb dX6_keep_23 rfl (lv_at hl 0 rfl) ?_
    refine zget (C := RX6) (T := TX6) (N := 7) S hK hP 0 rfl rfl 1 (Nat.le_of_ble_eq_true rfl) zf_6 zw_128 rfl dX6_keep_24 ?_
    refine lv_iload_n hx hb dX6_keep_27 rfl (lv_at hl 1 rfl) ?_
    obtain ⟨v1, hc2, hg⟩ := zbd hg
    by_cases h28_0 : v1 = 0
    · replace hg := zp hg h28_0
      subst h28_0
      refine zcallV (rest := []) S (c_X9_rowsOf l D cI cJ cZ cA ga q_X_draft q_X_draft_talks q_X_draft_dues q_X_draft_sights q_X_draft_people u_X_draft_rule (.ref q_X_draft_settings) u_X_draft_stake x1 0 hc2) (zgV zw_436 zw_237 zw_238 zw_23 zw_239) rfl hd_X9_rowsOf ⟨rfl, rfl⟩ ⟨Nat.le_of_ble_eq_true rfl, Nat.le_of_ble_eq_true rfl⟩ 1 9 rfl rfl rfl hl.1 rfl (Nat.le_of_ble_eq_true rfl) dX6_keep_28 hP hD hS hA hK hG (isC := [1]) rfl (by decide +kernel) rfl ⟨Nat.zero_le _, Nat.zero_le _⟩ (pl := [none, some 0, none, none, none, none, none, none, none, none, none, none]) (nw := 12) rfl (by decide +kernel) (w2 := (ws_X6_keep cI cJ cZ cA q_X_reader q_X_draft q_X_draft_talks q_X_draft_dues q_X_draft_sights q_X_draft_people q_X_reader_numbers q_X_draft_talks_cells q_X_draft_dues_cells q_X_draft_sights_cells q_X_draft_people_cells q_X_draft_settings u_X_reader_text u_X_reader_place u_X_reader_token u_X_reader_first u_X_reader_number u_X_draft_rule u_X_draft_stake N_X_draft_talks_cells N_X_draft_dues_cells N_X_draft_sights_cells N_X_draft_people_cells a_X_reader_numbers v_X_draft_talks_width v_X_draft_talks_limit v_X_draft_talks_size a_X_draft_talks_cells v_X_draft_dues_width v_X_draft_dues_limit v_X_draft_dues_size a_X_draft_dues_cells v_X_draft_sights_width v_X_draft_sights_limit v_X_draft_sights_size a_X_draft_sights_cells v_X_draft_people_width v_X_draft_people_limit v_X_draft_people_size a_X_draft_people_cells a_X_draft_settings)) rfl (st1 := [.ref q_X_draft_talks]) rfl (fun H locs hP hD hS => ?_)
      refine lv_aload_n hx hb dX6_keep_31 rfl (lv_at hl 0 rfl) ?_
      refine zget (C := RX6) (T := TX6) (N := 7) S hK hP 0 rfl rfl 2 (Nat.le_of_ble_eq_true rfl) zf_6 zw_126 rfl dX6_keep_32 ?_
      refine lv_iconst (v := 0) hx hb dX6_keep_35 (by decide) ?_
      refine ziald hx hb hK hP 2 0 rfl rfl (j := 0) (zin (by decide)) (by decide) dX6_keep_36 ?_
      refine lv_aload_n hx hb dX6_keep_37 rfl (lv_at hl 0 rfl) ?_
      refine zget (C := RX6) (T := TX6) (N := 7) S hK hP 0 rfl rfl 2 (Nat.le_of_ble_eq_true rfl) zf_6 zw_126 rfl dX6_keep_38 ?_
      refine lv_iconst (v := 1) hx hb dX6_keep_41 (by decide) ?_
      refine ziald hx hb hK hP 2 0 rfl rfl (j := 1) (zin (by decide)) (by decide) dX6_keep_42 ?_
      refine lv_aload_n hx hb dX6_keep_43 rfl (lv_at hl 0 rfl) ?_
      refine zget (C := RX6) (T := TX6) (N := 7) S hK hP 0 rfl rfl 2 (Nat.le_of_ble_eq_true rfl) zf_6 zw_126 rfl dX6_keep_44 ?_
      refine lv_iconst (v := 2) hx hb dX6_keep_47 (by decide) ?_
      refine ziald hx hb hK hP 2 0 rfl rfl (j := 2) (zin (by decide)) (by decide) dX6_keep_48 ?_
      obtain ⟨v3, hc4, hg⟩ := zbd hg
      refine zcallV (rest := []) S (c_X7_add l D cI cJ cZ cA ga q_X_draft_talks q_X_draft_talks_cells N_X_draft_talks_cells v_X_draft_talks_width v_X_draft_talks_limit v_X_draft_talks_size a_X_draft_talks_cells (a_X_reader_numbers 0) (a_X_reader_numbers 1) (a_X_reader_numbers 2) v3 hc4) (zgV zw_444 zw_245 zw_246 zw_32 zw_247) rfl hd_X7_add ⟨rfl, rfl⟩ ⟨Nat.le_of_ble_eq_true rfl, Nat.le_of_ble_eq_true rfl⟩ 3 7 rfl rfl rfl hl.1 rfl (Nat.le_of_ble_eq_true rfl) dX6_keep_49 hP hD hS hA hK hG (isC := [3, 4]) rfl (by decide +kernel) rfl ⟨Nat.zero_le _, Nat.zero_le _⟩ (pl := [none, none, none, some 0, some 1, none, none, none, none, none, none, none]) (nw := 12) rfl (by decide +kernel) (w2 := (ws_X6_keep cI cJ cZ cA q_X_reader q_X_draft q_X_draft_talks q_X_draft_dues q_X_draft_sights q_X_draft_people q_X_reader_numbers q_X_draft_talks_cells q_X_draft_dues_cells q_X_draft_sights_cells q_X_draft_people_cells q_X_draft_settings u_X_reader_text u_X_reader_place u_X_reader_token u_X_reader_first u_X_reader_number u_X_draft_rule u_X_draft_stake N_X_draft_talks_cells N_X_draft_dues_cells N_X_draft_sights_cells N_X_draft_people_cells a_X_reader_numbers v_X_draft_talks_width v_X_draft_talks_limit v3.2.1 v3.2.2 v_X_draft_dues_width v_X_draft_dues_limit v_X_draft_dues_size a_X_draft_dues_cells v_X_draft_sights_width v_X_draft_sights_limit v_X_draft_sights_size a_X_draft_sights_cells v_X_draft_people_width v_X_draft_people_limit v_X_draft_people_size a_X_draft_people_cells a_X_draft_settings)) rfl (st1 := [.int v3.1]) rfl (fun H locs hP hD hS => ?_)
      refine lv_pop hx hb dX6_keep_52 rfl ?_
      exact hret v3.2.1 v3.2.2 v_X_draft_dues_size a_X_draft_dues_cells v_X_draft_sights_size a_X_draft_sights_cells v_X_draft_people_size a_X_draft_people_cells a_X_draft_settings hg _ _ _ _ hP hS dX6_keep_53
    · replace hg := zn hg h28_0
      by_cases h28_1 : v1 = 1
      · replace hg := zp hg h28_1
        subst h28_1
        refine zcallV (rest := []) S (c_X9_rowsOf l D cI cJ cZ cA ga q_X_draft q_X_draft_talks q_X_draft_dues q_X_draft_sights q_X_draft_people u_X_draft_rule (.ref q_X_draft_settings) u_X_draft_stake x1 1 hc2) (zgV zw_436 zw_237 zw_238 zw_23 zw_239) rfl hd_X9_rowsOf ⟨rfl, rfl⟩ ⟨Nat.le_of_ble_eq_true rfl, Nat.le_of_ble_eq_true rfl⟩ 1 9 rfl rfl rfl hl.1 rfl (Nat.le_of_ble_eq_true rfl) dX6_keep_28 hP hD hS hA hK hG (isC := [1]) rfl (by decide +kernel) rfl ⟨Nat.zero_le _, Nat.zero_le _⟩ (pl := [none, some 0, none, none, none, none, none, none, none, none, none, none]) (nw := 12) rfl (by decide +kernel) (w2 := (ws_X6_keep cI cJ cZ cA q_X_reader q_X_draft q_X_draft_talks q_X_draft_dues q_X_draft_sights q_X_draft_people q_X_reader_numbers q_X_draft_talks_cells q_X_draft_dues_cells q_X_draft_sights_cells q_X_draft_people_cells q_X_draft_settings u_X_reader_text u_X_reader_place u_X_reader_token u_X_reader_first u_X_reader_number u_X_draft_rule u_X_draft_stake N_X_draft_talks_cells N_X_draft_dues_cells N_X_draft_sights_cells N_X_draft_people_cells a_X_reader_numbers v_X_draft_talks_width v_X_draft_talks_limit v_X_draft_talks_size a_X_draft_talks_cells v_X_draft_dues_width v_X_draft_dues_limit v_X_draft_dues_size a_X_draft_dues_cells v_X_draft_sights_width v_X_draft_sights_limit v_X_draft_sights_size a_X_draft_sights_cells v_X_draft_people_width v_X_draft_people_limit v_X_draft_people_size a_X_draft_people_cells a_X_draft_settings)) rfl (st1 := [.ref q_X_draft_dues]) rfl (fun H locs hP hD hS => ?_)
        refine lv_aload_n hx hb dX6_keep_31 rfl (lv_at hl 0 rfl) ?_
        refine zget (C := RX6) (T := TX6) (N := 7) S hK hP 0 rfl rfl 2 (Nat.le_of_ble_eq_true rfl) zf_6 zw_126 rfl dX6_keep_32 ?_
        refine lv_iconst (v := 0) hx hb dX6_keep_35 (by decide) ?_
        refine ziald hx hb hK hP 2 0 rfl rfl (j := 0) (zin (by decide)) (by decide) dX6_keep_36 ?_
        refine lv_aload_n hx hb dX6_keep_37 rfl (lv_at hl 0 rfl) ?_
        refine zget (C := RX6) (T := TX6) (N := 7) S hK hP 0 rfl rfl 2 (Nat.le_of_ble_eq_true rfl) zf_6 zw_126 rfl dX6_keep_38 ?_
        refine lv_iconst (v := 1) hx hb dX6_keep_41 (by decide) ?_
        refine ziald hx hb hK hP 2 0 rfl rfl (j := 1) (zin (by decide)) (by decide) dX6_keep_42 ?_
        refine lv_aload_n hx hb dX6_keep_43 rfl (lv_at hl 0 rfl) ?_
        refine zget (C := RX6) (T := TX6) (N := 7) S hK hP 0 rfl rfl 2 (Nat.le_of_ble_eq_true rfl) zf_6 zw_126 rfl dX6_keep_44 ?_
        refine lv_iconst (v := 2) hx hb dX6_keep_47 (by decide) ?_
        refine ziald hx hb hK hP 2 0 rfl rfl (j := 2) (zin (by decide)) (by decide) dX6_keep_48 ?_
        obtain ⟨v5, hc6, hg⟩ := zbd hg
        refine zcallV (rest := []) S (c_X7_add l D cI cJ cZ cA ga q_X_draft_dues q_X_draft_dues_cells N_X_draft_dues_cells v_X_draft_dues_width v_X_draft_dues_limit v_X_draft_dues_size a_X_draft_dues_cells (a_X_reader_numbers 0) (a_X_reader_numbers 1) (a_X_reader_numbers 2) v5 hc6) (zgV zw_444 zw_245 zw_246 zw_32 zw_247) rfl hd_X7_add ⟨rfl, rfl⟩ ⟨Nat.le_of_ble_eq_true rfl, Nat.le_of_ble_eq_true rfl⟩ 5 7 rfl rfl rfl hl.1 rfl (Nat.le_of_ble_eq_true rfl) dX6_keep_49 hP hD hS hA hK hG (isC := [5, 6]) rfl (by decide +kernel) rfl ⟨Nat.zero_le _, Nat.zero_le _⟩ (pl := [none, none, none, none, none, some 0, some 1, none, none, none, none, none]) (nw := 12) rfl (by decide +kernel) (w2 := (ws_X6_keep cI cJ cZ cA q_X_reader q_X_draft q_X_draft_talks q_X_draft_dues q_X_draft_sights q_X_draft_people q_X_reader_numbers q_X_draft_talks_cells q_X_draft_dues_cells q_X_draft_sights_cells q_X_draft_people_cells q_X_draft_settings u_X_reader_text u_X_reader_place u_X_reader_token u_X_reader_first u_X_reader_number u_X_draft_rule u_X_draft_stake N_X_draft_talks_cells N_X_draft_dues_cells N_X_draft_sights_cells N_X_draft_people_cells a_X_reader_numbers v_X_draft_talks_width v_X_draft_talks_limit v_X_draft_talks_size a_X_draft_talks_cells v_X_draft_dues_width v_X_draft_dues_limit v5.2.1 v5.2.2 v_X_draft_sights_width v_X_draft_sights_limit v_X_draft_sights_size a_X_draft_sights_cells v_X_draft_people_width v_X_draft_people_limit v_X_draft_people_size a_X_draft_people_cells a_X_draft_settings)) rfl (st1 := [.int v5.1]) rfl (fun H locs hP hD hS => ?_)
        refine lv_pop hx hb dX6_keep_52 rfl ?_
        exact hret v_X_draft_talks_size a_X_draft_talks_cells v5.2.1 v5.2.2 v_X_draft_sights_size a_X_draft_sights_cells v_X_draft_people_size a_X_draft_people_cells a_X_draft_settings hg _ _ _ _ hP hS dX6_keep_53
      · replace hg := zn hg h28_1
        by_cases h28_2 : v1 = 2
        · replace hg := zp hg h28_2
          subst h28_2
          refine zcallV (rest := []) S (c_X9_rowsOf l D cI cJ cZ cA ga q_X_draft q_X_draft_talks q_X_draft_dues q_X_draft_sights q_X_draft_people u_X_draft_rule (.ref q_X_draft_settings) u_X_draft_stake x1 2 hc2) (zgV zw_436 zw_237 zw_238 zw_23 zw_239) rfl hd_X9_rowsOf ⟨rfl, rfl⟩ ⟨Nat.le_of_ble_eq_true rfl, Nat.le_of_ble_eq_true rfl⟩ 1 9 rfl rfl rfl hl.1 rfl (Nat.le_of_ble_eq_true rfl) dX6_keep_28 hP hD hS hA hK hG (isC := [1]) rfl (by decide +kernel) rfl ⟨Nat.zero_le _, Nat.zero_le _⟩ (pl := [none, some 0, none, none, none, none, none, none, none, none, none, none]) (nw := 12) rfl (by decide +kernel) (w2 := (ws_X6_keep cI cJ cZ cA q_X_reader q_X_draft q_X_draft_talks q_X_draft_dues q_X_draft_sights q_X_draft_people q_X_reader_numbers q_X_draft_talks_cells q_X_draft_dues_cells q_X_draft_sights_cells q_X_draft_people_cells q_X_draft_settings u_X_reader_text u_X_reader_place u_X_reader_token u_X_reader_first u_X_reader_number u_X_draft_rule u_X_draft_stake N_X_draft_talks_cells N_X_draft_dues_cells N_X_draft_sights_cells N_X_draft_people_cells a_X_reader_numbers v_X_draft_talks_width v_X_draft_talks_limit v_X_draft_talks_size a_X_draft_talks_cells v_X_draft_dues_width v_X_draft_dues_limit v_X_draft_dues_size a_X_draft_dues_cells v_X_draft_sights_width v_X_draft_sights_limit v_X_draft_sights_size a_X_draft_sights_cells v_X_draft_people_width v_X_draft_people_limit v_X_draft_people_size a_X_draft_people_cells a_X_draft_settings)) rfl (st1 := [.ref q_X_draft_sights]) rfl (fun H locs hP hD hS => ?_)
          refine lv_aload_n hx hb dX6_keep_31 rfl (lv_at hl 0 rfl) ?_
          refine zget (C := RX6) (T := TX6) (N := 7) S hK hP 0 rfl rfl 2 (Nat.le_of_ble_eq_true rfl) zf_6 zw_126 rfl dX6_keep_32 ?_
          refine lv_iconst (v := 0) hx hb dX6_keep_35 (by decide) ?_
          refine ziald hx hb hK hP 2 0 rfl rfl (j := 0) (zin (by decide)) (by decide) dX6_keep_36 ?_
          refine lv_aload_n hx hb dX6_keep_37 rfl (lv_at hl 0 rfl) ?_
          refine zget (C := RX6) (T := TX6) (N := 7) S hK hP 0 rfl rfl 2 (Nat.le_of_ble_eq_true rfl) zf_6 zw_126 rfl dX6_keep_38 ?_
          refine lv_iconst (v := 1) hx hb dX6_keep_41 (by decide) ?_
          refine ziald hx hb hK hP 2 0 rfl rfl (j := 1) (zin (by decide)) (by decide) dX6_keep_42 ?_
          refine lv_aload_n hx hb dX6_keep_43 rfl (lv_at hl 0 rfl) ?_
          refine zget (C := RX6) (T := TX6) (N := 7) S hK hP 0 rfl rfl 2 (Nat.le_of_ble_eq_true rfl) zf_6 zw_126 rfl dX6_keep_44 ?_
          refine lv_iconst (v := 2) hx hb dX6_keep_47 (by decide) ?_
          refine ziald hx hb hK hP 2 0 rfl rfl (j := 2) (zin (by decide)) (by decide) dX6_keep_48 ?_
          obtain ⟨v7, hc8, hg⟩ := zbd hg
          refine zcallV (rest := []) S (c_X7_add l D cI cJ cZ cA ga q_X_draft_sights q_X_draft_sights_cells N_X_draft_sights_cells v_X_draft_sights_width v_X_draft_sights_limit v_X_draft_sights_size a_X_draft_sights_cells (a_X_reader_numbers 0) (a_X_reader_numbers 1) (a_X_reader_numbers 2) v7 hc8) (zgV zw_444 zw_245 zw_246 zw_32 zw_247) rfl hd_X7_add ⟨rfl, rfl⟩ ⟨Nat.le_of_ble_eq_true rfl, Nat.le_of_ble_eq_true rfl⟩ 7 7 rfl rfl rfl hl.1 rfl (Nat.le_of_ble_eq_true rfl) dX6_keep_49 hP hD hS hA hK hG (isC := [7, 8]) rfl (by decide +kernel) rfl ⟨Nat.zero_le _, Nat.zero_le _⟩ (pl := [none, none, none, none, none, none, none, some 0, some 1, none, none, none]) (nw := 12) rfl (by decide +kernel) (w2 := (ws_X6_keep cI cJ cZ cA q_X_reader q_X_draft q_X_draft_talks q_X_draft_dues q_X_draft_sights q_X_draft_people q_X_reader_numbers q_X_draft_talks_cells q_X_draft_dues_cells q_X_draft_sights_cells q_X_draft_people_cells q_X_draft_settings u_X_reader_text u_X_reader_place u_X_reader_token u_X_reader_first u_X_reader_number u_X_draft_rule u_X_draft_stake N_X_draft_talks_cells N_X_draft_dues_cells N_X_draft_sights_cells N_X_draft_people_cells a_X_reader_numbers v_X_draft_talks_width v_X_draft_talks_limit v_X_draft_talks_size a_X_draft_talks_cells v_X_draft_dues_width v_X_draft_dues_limit v_X_draft_dues_size a_X_draft_dues_cells v_X_draft_sights_width v_X_draft_sights_limit v7.2.1 v7.2.2 v_X_draft_people_width v_X_draft_people_limit v_X_draft_people_size a_X_draft_people_cells a_X_draft_settings)) rfl (st1 := [.int v7.1]) rfl (fun H locs hP hD hS => ?_)
          refine lv_pop hx hb dX6_keep_52 rfl ?_
          exact hret v_X_draft_talks_size a_X_draft_talks_cells v_X_draft_dues_size a_X_draft_dues_cells v7.2.1 v7.2.2 v_X_draft_people_size a_X_draft_people_cells a_X_draft_settings hg _ _ _ _ hP hS dX6_keep_53
        · replace hg := zn hg h28_2
          by_cases h28_3 : v1 = 3
          · replace hg := zp hg h28_3
            subst h28_3
            refine zcallV (rest := []) S (c_X9_rowsOf l D cI cJ cZ cA ga q_X_draft q_X_draft_talks q_X_draft_dues q_X_draft_sights q_X_draft_people u_X_draft_rule (.ref q_X_draft_settings) u_X_draft_stake x1 3 hc2) (zgV zw_436 zw_237 zw_238 zw_23 zw_239) rfl hd_X9_rowsOf ⟨rfl, rfl⟩ ⟨Nat.le_of_ble_eq_true rfl, Nat.le_of_ble_eq_true rfl⟩ 1 9 rfl rfl rfl hl.1 rfl (Nat.le_of_ble_eq_true rfl) dX6_keep_28 hP hD hS hA hK hG (isC := [1]) rfl (by decide +kernel) rfl ⟨Nat.zero_le _, Nat.zero_le _⟩ (pl := [none, some 0, none, none, none, none, none, none, none, none, none, none]) (nw := 12) rfl (by decide +kernel) (w2 := (ws_X6_keep cI cJ cZ cA q_X_reader q_X_draft q_X_draft_talks q_X_draft_dues q_X_draft_sights q_X_draft_people q_X_reader_numbers q_X_draft_talks_cells q_X_draft_dues_cells q_X_draft_sights_cells q_X_draft_people_cells q_X_draft_settings u_X_reader_text u_X_reader_place u_X_reader_token u_X_reader_first u_X_reader_number u_X_draft_rule u_X_draft_stake N_X_draft_talks_cells N_X_draft_dues_cells N_X_draft_sights_cells N_X_draft_people_cells a_X_reader_numbers v_X_draft_talks_width v_X_draft_talks_limit v_X_draft_talks_size a_X_draft_talks_cells v_X_draft_dues_width v_X_draft_dues_limit v_X_draft_dues_size a_X_draft_dues_cells v_X_draft_sights_width v_X_draft_sights_limit v_X_draft_sights_size a_X_draft_sights_cells v_X_draft_people_width v_X_draft_people_limit v_X_draft_people_size a_X_draft_people_cells a_X_draft_settings)) rfl (st1 := [.ref q_X_draft_people]) rfl (fun H locs hP hD hS => ?_)
            refine lv_aload_n hx hb dX6_keep_31 rfl (lv_at hl 0 rfl) ?_
            refine zget (C := RX6) (T := TX6) (N := 7) S hK hP 0 rfl rfl 2 (Nat.le_of_ble_eq_true rfl) zf_6 zw_126 rfl dX6_keep_32 ?_
            refine lv_iconst (v := 0) hx hb dX6_keep_35 (by decide) ?_
            refine ziald hx hb hK hP 2 0 rfl rfl (j := 0) (zin (by decide)) (by decide) dX6_keep_36 ?_
            refine lv_aload_n hx hb dX6_keep_37 rfl (lv_at hl 0 rfl) ?_
            refine zget (C := RX6) (T := TX6) (N := 7) S hK hP 0 rfl rfl 2 (Nat.le_of_ble_eq_true rfl) zf_6 zw_126 rfl dX6_keep_38 ?_
            refine lv_iconst (v := 1) hx hb dX6_keep_41 (by decide) ?_
            refine ziald hx hb hK hP 2 0 rfl rfl (j := 1) (zin (by decide)) (by decide) dX6_keep_42 ?_
            refine lv_aload_n hx hb dX6_keep_43 rfl (lv_at hl 0 rfl) ?_
            refine zget (C := RX6) (T := TX6) (N := 7) S hK hP 0 rfl rfl 2 (Nat.le_of_ble_eq_true rfl) zf_6 zw_126 rfl dX6_keep_44 ?_
            refine lv_iconst (v := 2) hx hb dX6_keep_47 (by decide) ?_
            refine ziald hx hb hK hP 2 0 rfl rfl (j := 2) (zin (by decide)) (by decide) dX6_keep_48 ?_
            obtain ⟨v9, hc10, hg⟩ := zbd hg
            refine zcallV (rest := []) S (c_X7_add l D cI cJ cZ cA ga q_X_draft_people q_X_draft_people_cells N_X_draft_people_cells v_X_draft_people_width v_X_draft_people_limit v_X_draft_people_size a_X_draft_people_cells (a_X_reader_numbers 0) (a_X_reader_numbers 1) (a_X_reader_numbers 2) v9 hc10) (zgV zw_444 zw_245 zw_246 zw_32 zw_247) rfl hd_X7_add ⟨rfl, rfl⟩ ⟨Nat.le_of_ble_eq_true rfl, Nat.le_of_ble_eq_true rfl⟩ 9 7 rfl rfl rfl hl.1 rfl (Nat.le_of_ble_eq_true rfl) dX6_keep_49 hP hD hS hA hK hG (isC := [9, 10]) rfl (by decide +kernel) rfl ⟨Nat.zero_le _, Nat.zero_le _⟩ (pl := [none, none, none, none, none, none, none, none, none, some 0, some 1, none]) (nw := 12) rfl (by decide +kernel) (w2 := (ws_X6_keep cI cJ cZ cA q_X_reader q_X_draft q_X_draft_talks q_X_draft_dues q_X_draft_sights q_X_draft_people q_X_reader_numbers q_X_draft_talks_cells q_X_draft_dues_cells q_X_draft_sights_cells q_X_draft_people_cells q_X_draft_settings u_X_reader_text u_X_reader_place u_X_reader_token u_X_reader_first u_X_reader_number u_X_draft_rule u_X_draft_stake N_X_draft_talks_cells N_X_draft_dues_cells N_X_draft_sights_cells N_X_draft_people_cells a_X_reader_numbers v_X_draft_talks_width v_X_draft_talks_limit v_X_draft_talks_size a_X_draft_talks_cells v_X_draft_dues_width v_X_draft_dues_limit v_X_draft_dues_size a_X_draft_dues_cells v_X_draft_sights_width v_X_draft_sights_limit v_X_draft_sights_size a_X_draft_sights_cells v_X_draft_people_width v_X_draft_people_limit v9.2.1 v9.2.2 a_X_draft_settings)) rfl (st1 := [.int v9.1]) rfl (fun H locs hP hD hS => ?_)
            refine lv_pop hx hb dX6_keep_52 rfl ?_
            exact hret v_X_draft_talks_size a_X_draft_talks_cells v_X_draft_dues_size a_X_draft_dues_cells v_X_draft_sights_size a_X_draft_sights_cells v9.2.1 v9.2.2 a_X_draft_settings hg _ _ _ _ hP hS dX6_keep_53
          · replace hg := zn hg h28_3
            cases hg
  · have hg := zn hg h2
    refine lv_aload_n hx hb dX6_keep_5 rfl (lv_at hl 0 rfl) ?_
    refine zget (C := RX6) (T := TX6) (N := 7) S hK hP 0 rfl rfl 1 (Nat.le_of_ble_eq_true rfl) zf_6 zw_128 rfl dX6_keep_6 ?_
    refine zget (C := RX9) (T := TX9) (N := 7) S hK hP 1 rfl rfl 5 (Nat.le_of_ble_eq_true rfl) zf_9 zw_443 rfl dX6_keep_9 ?_
    refine lv_iload_n hx hb dX6_keep_12 rfl (lv_at hl 1 rfl) ?_
    refine lv_aload_n hx hb dX6_keep_13 rfl (lv_at hl 0 rfl) ?_
    refine zget (C := RX6) (T := TX6) (N := 7) S hK hP 0 rfl rfl 2 (Nat.le_of_ble_eq_true rfl) zf_6 zw_126 rfl dX6_keep_14 ?_
    refine lv_iconst (v := 0) hx hb dX6_keep_17 (by decide) ?_
    refine ziald hx hb hK hP 2 0 rfl rfl (j := 0) (zin (by decide)) (by decide) dX6_keep_18 ?_
    obtain ⟨h11, hg⟩ := zck hg
    refine ziast hx hb hK hP hD hS 11 0 rfl rfl (j := (x1.toNatClampNeg)) h11 rfl dX6_keep_19 (w2 := (ws_X6_keep cI cJ cZ cA q_X_reader q_X_draft q_X_draft_talks q_X_draft_dues q_X_draft_sights q_X_draft_people q_X_reader_numbers q_X_draft_talks_cells q_X_draft_dues_cells q_X_draft_sights_cells q_X_draft_people_cells q_X_draft_settings u_X_reader_text u_X_reader_place u_X_reader_token u_X_reader_first u_X_reader_number u_X_draft_rule u_X_draft_stake N_X_draft_talks_cells N_X_draft_dues_cells N_X_draft_sights_cells N_X_draft_people_cells a_X_reader_numbers v_X_draft_talks_width v_X_draft_talks_limit v_X_draft_talks_size a_X_draft_talks_cells v_X_draft_dues_width v_X_draft_dues_limit v_X_draft_dues_size a_X_draft_dues_cells v_X_draft_sights_width v_X_draft_sights_limit v_X_draft_sights_size a_X_draft_sights_cells v_X_draft_people_width v_X_draft_people_limit v_X_draft_people_size a_X_draft_people_cells (upd a_X_draft_settings (x1.toNatClampNeg) (a_X_reader_numbers 0)))) rfl (fun H locs hP hD hS => ?_)
    refine lv_goto (tgt := 53) hx hb dX6_keep_20 (by decide) ?_
    exact hret v_X_draft_talks_size a_X_draft_talks_cells v_X_draft_dues_size a_X_draft_dues_cells v_X_draft_sights_size a_X_draft_sights_cells v_X_draft_people_size a_X_draft_people_cells (upd a_X_draft_settings (x1.toNatClampNeg) (a_X_reader_numbers 0)) hg _ _ _ _ hP hS dX6_keep_53

/-! SpokenClock$Reader.isItem()Z -/
abbrev ws_X6_isItem (cI cJ cZ cA : ClassId) (q_X_reader q_X_text q_X_text_cells q_X_draft q_X_reader_numbers q_X_draft_talks q_X_draft_talks_cells q_X_draft_dues q_X_draft_dues_cells q_X_draft_sights q_X_draft_sights_cells q_X_draft_people q_X_draft_people_cells q_X_draft_settings : Nat) (u_X_text_limit : Value) (u_X_draft_rule : Value) (u_X_draft_stake : Value) (N_X_text_cells : Nat) (N_X_draft_talks_cells : Nat) (N_X_draft_dues_cells : Nat) (N_X_draft_sights_cells : Nat) (N_X_draft_people_cells : Nat) (v_X_reader_place : Int32) (v_X_reader_token : Int32) (v_X_reader_first : Int32) (v_X_reader_number : Int32) (v_X_text_width : Int32) (v_X_text_size : Int32) (a_X_text_cells : Nat → Int32) (a_X_reader_numbers : Nat → Int32) (v_X_draft_talks_width : Int32) (v_X_draft_talks_limit : Int32) (v_X_draft_talks_size : Int32) (a_X_draft_talks_cells : Nat → Int32) (v_X_draft_dues_width : Int32) (v_X_draft_dues_limit : Int32) (v_X_draft_dues_size : Int32) (a_X_draft_dues_cells : Nat → Int32) (v_X_draft_sights_width : Int32) (v_X_draft_sights_limit : Int32) (v_X_draft_sights_size : Int32) (a_X_draft_sights_cells : Nat → Int32) (v_X_draft_people_width : Int32) (v_X_draft_people_limit : Int32) (v_X_draft_people_size : Int32) (a_X_draft_people_cells : Nat → Int32) (a_X_draft_settings : Nat → Int32) : va_W := [(q_X_reader, .inr (6, [.ref q_X_text, .ref q_X_draft, .ref q_X_reader_numbers, .int v_X_reader_place, .int v_X_reader_token, .int v_X_reader_first, .int v_X_reader_number])), (q_X_text, .inr (7, [.int v_X_text_width, u_X_text_limit, .ref q_X_text_cells, .int v_X_text_size])), (q_X_text_cells, .inl (cI, N_X_text_cells, .inl a_X_text_cells)), (q_X_draft, .inr (9, [.ref q_X_draft_people, .ref q_X_draft_talks, .ref q_X_draft_dues, .ref q_X_draft_sights, u_X_draft_rule, .ref q_X_draft_settings, u_X_draft_stake])), (q_X_reader_numbers, .inl (cI, 3, .inl a_X_reader_numbers)), (q_X_draft_talks, .inr (7, [.int v_X_draft_talks_width, .int v_X_draft_talks_limit, .ref q_X_draft_talks_cells, .int v_X_draft_talks_size])), (q_X_draft_talks_cells, .inl (cI, N_X_draft_talks_cells, .inl a_X_draft_talks_cells)), (q_X_draft_dues, .inr (7, [.int v_X_draft_dues_width, .int v_X_draft_dues_limit, .ref q_X_draft_dues_cells, .int v_X_draft_dues_size])), (q_X_draft_dues_cells, .inl (cI, N_X_draft_dues_cells, .inl a_X_draft_dues_cells)), (q_X_draft_sights, .inr (7, [.int v_X_draft_sights_width, .int v_X_draft_sights_limit, .ref q_X_draft_sights_cells, .int v_X_draft_sights_size])), (q_X_draft_sights_cells, .inl (cI, N_X_draft_sights_cells, .inl a_X_draft_sights_cells)), (q_X_draft_people, .inr (7, [.int v_X_draft_people_width, .int v_X_draft_people_limit, .ref q_X_draft_people_cells, .int v_X_draft_people_size])), (q_X_draft_people_cells, .inl (cI, N_X_draft_people_cells, .inl a_X_draft_people_cells)), (q_X_draft_settings, .inl (cI, 3, .inl a_X_draft_settings))]
abbrev rm_X6_isItem : Room := { frames := 6, cells := 0, slots := 0, locals := 128 }
def g_X6_isItem_140 (N_X_text_cells : Nat) (N_X_draft_talks_cells : Nat) (N_X_draft_dues_cells : Nat) (N_X_draft_sights_cells : Nat) (N_X_draft_people_cells : Nat) (v_X_text_width : Int32) (v_X_text_size : Int32) (a_X_text_cells : Nat → Int32) (v_X_draft_talks_width : Int32) (v_X_draft_talks_limit : Int32) (v_X_draft_dues_width : Int32) (v_X_draft_dues_limit : Int32) (v_X_draft_sights_width : Int32) (v_X_draft_sights_limit : Int32) (v_X_draft_people_width : Int32) (v_X_draft_people_limit : Int32) (k49 : Int32 → Int32 → Int32 → Int32 → Int32 → Int32 → (Nat → Int32) → Int32 → (Nat → Int32) → Int32 → (Nat → Int32) → Int32 → (Nat → Int32) → Int32 → (Nat → Int32) → (Nat → Int32) → Option (Int32 × Int32 × Int32 × Int32 × Int32 × (Nat → Int32) × Int32 × (Nat → Int32) × Int32 × (Nat → Int32) × Int32 × (Nat → Int32) × Int32 × (Nat → Int32) × (Nat → Int32))) (x1 : Int32) (x2 : Int32) (x4 : Int32) (t1 : Int32) (t2 : Int32) (t3 : Int32) (t4 : Int32) (v_X_reader_place : Int32) (v_X_reader_token : Int32) (v_X_reader_first : Int32) (v_X_reader_number : Int32) (a_X_reader_numbers : Nat → Int32) (v_X_draft_talks_size : Int32) (a_X_draft_talks_cells : Nat → Int32) (v_X_draft_dues_size : Int32) (a_X_draft_dues_cells : Nat → Int32) (v_X_draft_sights_size : Int32) (a_X_draft_sights_cells : Nat → Int32) (v_X_draft_people_size : Int32) (a_X_draft_people_cells : Nat → Int32) (a_X_draft_settings : Nat → Int32) : Option (Int32 × Int32 × Int32 × Int32 × Int32 × (Nat → Int32) × Int32 × (Nat → Int32) × Int32 × (Nat → Int32) × Int32 × (Nat → Int32) × Int32 × (Nat → Int32) × (Nat → Int32)) :=
  (g_X9_isAsTold v_X_draft_people_size t1 t2 t3 t4).bind fun v8 =>
  if v8 = 0 then (
    some (0, v_X_reader_place, v_X_reader_token, v_X_reader_first, v_X_reader_number, a_X_reader_numbers, v_X_draft_talks_size, a_X_draft_talks_cells, v_X_draft_dues_size, a_X_draft_dues_cells, v_X_draft_sights_size, a_X_draft_sights_cells, v_X_draft_people_size, a_X_draft_people_cells, a_X_draft_settings)
  ) else (
    if x2 < 0 ∨ 3 ≤ x2.toNatClampNeg then none else
    (g_X6_advance N_X_text_cells v_X_text_width v_X_text_size a_X_text_cells v_X_reader_place v_X_reader_token v_X_reader_first v_X_reader_number).bind fun v11 =>
    k49 x1 (x2 + 1) v11.1 v11.2.1 v11.2.2.1 v11.2.2.2 (upd a_X_reader_numbers (x2.toNatClampNeg) x4) v_X_draft_talks_size a_X_draft_talks_cells v_X_draft_dues_size a_X_draft_dues_cells v_X_draft_sights_size a_X_draft_sights_cells v_X_draft_people_size a_X_draft_people_cells a_X_draft_settings
  )
def g_X6_isItem_106 (N_X_text_cells : Nat) (N_X_draft_talks_cells : Nat) (N_X_draft_dues_cells : Nat) (N_X_draft_sights_cells : Nat) (N_X_draft_people_cells : Nat) (v_X_text_width : Int32) (v_X_text_size : Int32) (a_X_text_cells : Nat → Int32) (v_X_draft_talks_width : Int32) (v_X_draft_talks_limit : Int32) (v_X_draft_dues_width : Int32) (v_X_draft_dues_limit : Int32) (v_X_draft_sights_width : Int32) (v_X_draft_sights_limit : Int32) (v_X_draft_people_width : Int32) (v_X_draft_people_limit : Int32) (k49 : Int32 → Int32 → Int32 → Int32 → Int32 → Int32 → (Nat → Int32) → Int32 → (Nat → Int32) → Int32 → (Nat → Int32) → Int32 → (Nat → Int32) → Int32 → (Nat → Int32) → (Nat → Int32) → Option (Int32 × Int32 × Int32 × Int32 × Int32 × (Nat → Int32) × Int32 × (Nat → Int32) × Int32 × (Nat → Int32) × Int32 × (Nat → Int32) × Int32 × (Nat → Int32) × (Nat → Int32))) (x1 : Int32) (x2 : Int32) (t0 : Int32) (v_X_reader_place : Int32) (v_X_reader_token : Int32) (v_X_reader_first : Int32) (v_X_reader_number : Int32) (a_X_reader_numbers : Nat → Int32) (v_X_draft_talks_size : Int32) (a_X_draft_talks_cells : Nat → Int32) (v_X_draft_dues_size : Int32) (a_X_draft_dues_cells : Nat → Int32) (v_X_draft_sights_size : Int32) (a_X_draft_sights_cells : Nat → Int32) (v_X_draft_people_size : Int32) (a_X_draft_people_cells : Nat → Int32) (a_X_draft_settings : Nat → Int32) : Option (Int32 × Int32 × Int32 × Int32 × Int32 × (Nat → Int32) × Int32 × (Nat → Int32) × Int32 × (Nat → Int32) × Int32 × (Nat → Int32) × Int32 × (Nat → Int32) × (Nat → Int32)) :=
  if v_X_reader_token = 2 then (
    if x2 ≤ 0 then (
      g_X6_isItem_140 N_X_text_cells N_X_draft_talks_cells N_X_draft_dues_cells N_X_draft_sights_cells N_X_draft_people_cells v_X_text_width v_X_text_size a_X_text_cells v_X_draft_talks_width v_X_draft_talks_limit v_X_draft_dues_width v_X_draft_dues_limit v_X_draft_sights_width v_X_draft_sights_limit v_X_draft_people_width v_X_draft_people_limit k49 x1 x2 t0 x1 x2 t0 0 v_X_reader_place v_X_reader_token v_X_reader_first v_X_reader_number a_X_reader_numbers v_X_draft_talks_size a_X_draft_talks_cells v_X_draft_dues_size a_X_draft_dues_cells v_X_draft_sights_size a_X_draft_sights_cells v_X_draft_people_size a_X_draft_people_cells a_X_draft_settings
    ) else (
      if (x2 - 1) < 0 ∨ 3 ≤ (x2 - 1).toNatClampNeg then none else
      g_X6_isItem_140 N_X_text_cells N_X_draft_talks_cells N_X_draft_dues_cells N_X_draft_sights_cells N_X_draft_people_cells v_X_text_width v_X_text_size a_X_text_cells v_X_draft_talks_width v_X_draft_talks_limit v_X_draft_dues_width v_X_draft_dues_limit v_X_draft_sights_width v_X_draft_sights_limit v_X_draft_people_width v_X_draft_people_limit k49 x1 x2 t0 x1 x2 t0 (a_X_reader_numbers ((x2 - 1).toNatClampNeg)) v_X_reader_place v_X_reader_token v_X_reader_first v_X_reader_number a_X_reader_numbers v_X_draft_talks_size a_X_draft_talks_cells v_X_draft_dues_size a_X_draft_dues_cells v_X_draft_sights_size a_X_draft_sights_cells v_X_draft_people_size a_X_draft_people_cells a_X_draft_settings
    )
  ) else (
    some (0, v_X_reader_place, v_X_reader_token, v_X_reader_first, v_X_reader_number, a_X_reader_numbers, v_X_draft_talks_size, a_X_draft_talks_cells, v_X_draft_dues_size, a_X_draft_dues_cells, v_X_draft_sights_size, a_X_draft_sights_cells, v_X_draft_people_size, a_X_draft_people_cells, a_X_draft_settings)
  )
def g_X6_isItem_90 (N_X_text_cells : Nat) (N_X_draft_talks_cells : Nat) (N_X_draft_dues_cells : Nat) (N_X_draft_sights_cells : Nat) (N_X_draft_people_cells : Nat) (v_X_text_width : Int32) (v_X_text_size : Int32) (a_X_text_cells : Nat → Int32) (v_X_draft_talks_width : Int32) (v_X_draft_talks_limit : Int32) (v_X_draft_dues_width : Int32) (v_X_draft_dues_limit : Int32) (v_X_draft_sights_width : Int32) (v_X_draft_sights_limit : Int32) (v_X_draft_people_width : Int32) (v_X_draft_people_limit : Int32) (k49 : Int32 → Int32 → Int32 → Int32 → Int32 → Int32 → (Nat → Int32) → Int32 → (Nat → Int32) → Int32 → (Nat → Int32) → Int32 → (Nat → Int32) → Int32 → (Nat → Int32) → (Nat → Int32) → Option (Int32 × Int32 × Int32 × Int32 × Int32 × (Nat → Int32) × Int32 × (Nat → Int32) × Int32 × (Nat → Int32) × Int32 × (Nat → Int32) × Int32 × (Nat → Int32) × (Nat → Int32))) (x1 : Int32) (x2 : Int32) (x3 : Int32) (v_X_reader_place : Int32) (v_X_reader_token : Int32) (v_X_reader_first : Int32) (v_X_reader_number : Int32) (a_X_reader_numbers : Nat → Int32) (v_X_draft_talks_size : Int32) (a_X_draft_talks_cells : Nat → Int32) (v_X_draft_dues_size : Int32) (a_X_draft_dues_cells : Nat → Int32) (v_X_draft_sights_size : Int32) (a_X_draft_sights_cells : Nat → Int32) (v_X_draft_people_size : Int32) (a_X_draft_people_cells : Nat → Int32) (a_X_draft_settings : Nat → Int32) : Option (Int32 × Int32 × Int32 × Int32 × Int32 × (Nat → Int32) × Int32 × (Nat → Int32) × Int32 × (Nat → Int32) × Int32 × (Nat → Int32) × Int32 × (Nat → Int32) × (Nat → Int32)) :=
  if x3 = 0 then (
    g_X6_isItem_106 N_X_text_cells N_X_draft_talks_cells N_X_draft_dues_cells N_X_draft_sights_cells N_X_draft_people_cells v_X_text_width v_X_text_size a_X_text_cells v_X_draft_talks_width v_X_draft_talks_limit v_X_draft_dues_width v_X_draft_dues_limit v_X_draft_sights_width v_X_draft_sights_limit v_X_draft_people_width v_X_draft_people_limit k49 x1 x2 v_X_reader_number v_X_reader_place v_X_reader_token v_X_reader_first v_X_reader_number a_X_reader_numbers v_X_draft_talks_size a_X_draft_talks_cells v_X_draft_dues_size a_X_draft_dues_cells v_X_draft_sights_size a_X_draft_sights_cells v_X_draft_people_size a_X_draft_people_cells a_X_draft_settings
  ) else (
    g_X6_isItem_106 N_X_text_cells N_X_draft_talks_cells N_X_draft_dues_cells N_X_draft_sights_cells N_X_draft_people_cells v_X_text_width v_X_text_size a_X_text_cells v_X_draft_talks_width v_X_draft_talks_limit v_X_draft_dues_width v_X_draft_dues_limit v_X_draft_sights_width v_X_draft_sights_limit v_X_draft_people_width v_X_draft_people_limit k49 x1 x2 (-v_X_reader_number) v_X_reader_place v_X_reader_token v_X_reader_first v_X_reader_number a_X_reader_numbers v_X_draft_talks_size a_X_draft_talks_cells v_X_draft_dues_size a_X_draft_dues_cells v_X_draft_sights_size a_X_draft_sights_cells v_X_draft_people_size a_X_draft_people_cells a_X_draft_settings
  )
def g_X6_isItem_81 (N_X_text_cells : Nat) (N_X_draft_talks_cells : Nat) (N_X_draft_dues_cells : Nat) (N_X_draft_sights_cells : Nat) (N_X_draft_people_cells : Nat) (v_X_text_width : Int32) (v_X_text_size : Int32) (a_X_text_cells : Nat → Int32) (v_X_draft_talks_width : Int32) (v_X_draft_talks_limit : Int32) (v_X_draft_dues_width : Int32) (v_X_draft_dues_limit : Int32) (v_X_draft_sights_width : Int32) (v_X_draft_sights_limit : Int32) (v_X_draft_people_width : Int32) (v_X_draft_people_limit : Int32) (k49 : Int32 → Int32 → Int32 → Int32 → Int32 → Int32 → (Nat → Int32) → Int32 → (Nat → Int32) → Int32 → (Nat → Int32) → Int32 → (Nat → Int32) → Int32 → (Nat → Int32) → (Nat → Int32) → Option (Int32 × Int32 × Int32 × Int32 × Int32 × (Nat → Int32) × Int32 × (Nat → Int32) × Int32 × (Nat → Int32) × Int32 × (Nat → Int32) × Int32 × (Nat → Int32) × (Nat → Int32))) (x1 : Int32) (x2 : Int32) (t0 : Int32) (v_X_reader_place : Int32) (v_X_reader_token : Int32) (v_X_reader_first : Int32) (v_X_reader_number : Int32) (a_X_reader_numbers : Nat → Int32) (v_X_draft_talks_size : Int32) (a_X_draft_talks_cells : Nat → Int32) (v_X_draft_dues_size : Int32) (a_X_draft_dues_cells : Nat → Int32) (v_X_draft_sights_size : Int32) (a_X_draft_sights_cells : Nat → Int32) (v_X_draft_people_size : Int32) (a_X_draft_people_cells : Nat → Int32) (a_X_draft_settings : Nat → Int32) : Option (Int32 × Int32 × Int32 × Int32 × Int32 × (Nat → Int32) × Int32 × (Nat → Int32) × Int32 × (Nat → Int32) × Int32 × (Nat → Int32) × Int32 × (Nat → Int32) × (Nat → Int32)) :=
  if t0 = 0 then (
    g_X6_isItem_90 N_X_text_cells N_X_draft_talks_cells N_X_draft_dues_cells N_X_draft_sights_cells N_X_draft_people_cells v_X_text_width v_X_text_size a_X_text_cells v_X_draft_talks_width v_X_draft_talks_limit v_X_draft_dues_width v_X_draft_dues_limit v_X_draft_sights_width v_X_draft_sights_limit v_X_draft_people_width v_X_draft_people_limit k49 x1 x2 t0 v_X_reader_place v_X_reader_token v_X_reader_first v_X_reader_number a_X_reader_numbers v_X_draft_talks_size a_X_draft_talks_cells v_X_draft_dues_size a_X_draft_dues_cells v_X_draft_sights_size a_X_draft_sights_cells v_X_draft_people_size a_X_draft_people_cells a_X_draft_settings
  ) else (
    (g_X6_advance N_X_text_cells v_X_text_width v_X_text_size a_X_text_cells v_X_reader_place v_X_reader_token v_X_reader_first v_X_reader_number).bind fun v14 =>
    g_X6_isItem_90 N_X_text_cells N_X_draft_talks_cells N_X_draft_dues_cells N_X_draft_sights_cells N_X_draft_people_cells v_X_text_width v_X_text_size a_X_text_cells v_X_draft_talks_width v_X_draft_talks_limit v_X_draft_dues_width v_X_draft_dues_limit v_X_draft_sights_width v_X_draft_sights_limit v_X_draft_people_width v_X_draft_people_limit k49 x1 x2 t0 v14.1 v14.2.1 v14.2.2.1 v14.2.2.2 a_X_reader_numbers v_X_draft_talks_size a_X_draft_talks_cells v_X_draft_dues_size a_X_draft_dues_cells v_X_draft_sights_size a_X_draft_sights_cells v_X_draft_people_size a_X_draft_people_cells a_X_draft_settings
  )
def g_X6_isItem_80 (N_X_text_cells : Nat) (N_X_draft_talks_cells : Nat) (N_X_draft_dues_cells : Nat) (N_X_draft_sights_cells : Nat) (N_X_draft_people_cells : Nat) (v_X_text_width : Int32) (v_X_text_size : Int32) (a_X_text_cells : Nat → Int32) (v_X_draft_talks_width : Int32) (v_X_draft_talks_limit : Int32) (v_X_draft_dues_width : Int32) (v_X_draft_dues_limit : Int32) (v_X_draft_sights_width : Int32) (v_X_draft_sights_limit : Int32) (v_X_draft_people_width : Int32) (v_X_draft_people_limit : Int32) (k49 : Int32 → Int32 → Int32 → Int32 → Int32 → Int32 → (Nat → Int32) → Int32 → (Nat → Int32) → Int32 → (Nat → Int32) → Int32 → (Nat → Int32) → Int32 → (Nat → Int32) → (Nat → Int32) → Option (Int32 × Int32 × Int32 × Int32 × Int32 × (Nat → Int32) × Int32 × (Nat → Int32) × Int32 × (Nat → Int32) × Int32 × (Nat → Int32) × Int32 × (Nat → Int32) × (Nat → Int32))) (x1 : Int32) (x2 : Int32) (v_X_reader_place : Int32) (v_X_reader_token : Int32) (v_X_reader_first : Int32) (v_X_reader_number : Int32) (a_X_reader_numbers : Nat → Int32) (v_X_draft_talks_size : Int32) (a_X_draft_talks_cells : Nat → Int32) (v_X_draft_dues_size : Int32) (a_X_draft_dues_cells : Nat → Int32) (v_X_draft_sights_size : Int32) (a_X_draft_sights_cells : Nat → Int32) (v_X_draft_people_size : Int32) (a_X_draft_people_cells : Nat → Int32) (a_X_draft_settings : Nat → Int32) : Option (Int32 × Int32 × Int32 × Int32 × Int32 × (Nat → Int32) × Int32 × (Nat → Int32) × Int32 × (Nat → Int32) × Int32 × (Nat → Int32) × Int32 × (Nat → Int32) × (Nat → Int32)) :=
  g_X6_isItem_81 N_X_text_cells N_X_draft_talks_cells N_X_draft_dues_cells N_X_draft_sights_cells N_X_draft_people_cells v_X_text_width v_X_text_size a_X_text_cells v_X_draft_talks_width v_X_draft_talks_limit v_X_draft_dues_width v_X_draft_dues_limit v_X_draft_sights_width v_X_draft_sights_limit v_X_draft_people_width v_X_draft_people_limit k49 x1 x2 0 v_X_reader_place v_X_reader_token v_X_reader_first v_X_reader_number a_X_reader_numbers v_X_draft_talks_size a_X_draft_talks_cells v_X_draft_dues_size a_X_draft_dues_cells v_X_draft_sights_size a_X_draft_sights_cells v_X_draft_people_size a_X_draft_people_cells a_X_draft_settings
def g_X6_isItem_49b (N_X_text_cells : Nat) (N_X_draft_talks_cells : Nat) (N_X_draft_dues_cells : Nat) (N_X_draft_sights_cells : Nat) (N_X_draft_people_cells : Nat) (v_X_text_width : Int32) (v_X_text_size : Int32) (a_X_text_cells : Nat → Int32) (v_X_draft_talks_width : Int32) (v_X_draft_talks_limit : Int32) (v_X_draft_dues_width : Int32) (v_X_draft_dues_limit : Int32) (v_X_draft_sights_width : Int32) (v_X_draft_sights_limit : Int32) (v_X_draft_people_width : Int32) (v_X_draft_people_limit : Int32) (k49 : Int32 → Int32 → Int32 → Int32 → Int32 → Int32 → (Nat → Int32) → Int32 → (Nat → Int32) → Int32 → (Nat → Int32) → Int32 → (Nat → Int32) → Int32 → (Nat → Int32) → (Nat → Int32) → Option (Int32 × Int32 × Int32 × Int32 × Int32 × (Nat → Int32) × Int32 × (Nat → Int32) × Int32 × (Nat → Int32) × Int32 × (Nat → Int32) × Int32 × (Nat → Int32) × (Nat → Int32))) (x1 : Int32) (x2 : Int32) (v_X_reader_place : Int32) (v_X_reader_token : Int32) (v_X_reader_first : Int32) (v_X_reader_number : Int32) (a_X_reader_numbers : Nat → Int32) (v_X_draft_talks_size : Int32) (a_X_draft_talks_cells : Nat → Int32) (v_X_draft_dues_size : Int32) (a_X_draft_dues_cells : Nat → Int32) (v_X_draft_sights_size : Int32) (a_X_draft_sights_cells : Nat → Int32) (v_X_draft_people_size : Int32) (a_X_draft_people_cells : Nat → Int32) (a_X_draft_settings : Nat → Int32) : Option (Int32 × Int32 × Int32 × Int32 × Int32 × (Nat → Int32) × Int32 × (Nat → Int32) × Int32 × (Nat → Int32) × Int32 × (Nat → Int32) × Int32 × (Nat → Int32) × (Nat → Int32)) :=
  if x1 < 0 ∨ 7 ≤ x1.toNatClampNeg then none else
  if (zWID (x1.toNatClampNeg)) ≤ x2 then (
    if v_X_reader_token = 4 then (
      (g_X6_advance N_X_text_cells v_X_text_width v_X_text_size a_X_text_cells v_X_reader_place v_X_reader_token v_X_reader_first v_X_reader_number).bind fun v4 =>
      (g_X6_keep N_X_draft_talks_cells N_X_draft_dues_cells N_X_draft_sights_cells N_X_draft_people_cells a_X_reader_numbers v_X_draft_talks_width v_X_draft_talks_limit v_X_draft_dues_width v_X_draft_dues_limit v_X_draft_sights_width v_X_draft_sights_limit v_X_draft_people_width v_X_draft_people_limit x1 v_X_draft_talks_size a_X_draft_talks_cells v_X_draft_dues_size a_X_draft_dues_cells v_X_draft_sights_size a_X_draft_sights_cells v_X_draft_people_size a_X_draft_people_cells a_X_draft_settings).bind fun v6 =>
      some (1, v4.1, v4.2.1, v4.2.2.1, v4.2.2.2, a_X_reader_numbers, v6.1, v6.2.1, v6.2.2.1, v6.2.2.2.1, v6.2.2.2.2.1, v6.2.2.2.2.2.1, v6.2.2.2.2.2.2.1, v6.2.2.2.2.2.2.2.1, v6.2.2.2.2.2.2.2.2)
    ) else (
      some (0, v_X_reader_place, v_X_reader_token, v_X_reader_first, v_X_reader_number, a_X_reader_numbers, v_X_draft_talks_size, a_X_draft_talks_cells, v_X_draft_dues_size, a_X_draft_dues_cells, v_X_draft_sights_size, a_X_draft_sights_cells, v_X_draft_people_size, a_X_draft_people_cells, a_X_draft_settings)
    )
  ) else (
    if x1 = 5 then (
      if x2 = 2 then (
        if v_X_reader_token = 3 then (
          g_X6_isItem_81 N_X_text_cells N_X_draft_talks_cells N_X_draft_dues_cells N_X_draft_sights_cells N_X_draft_people_cells v_X_text_width v_X_text_size a_X_text_cells v_X_draft_talks_width v_X_draft_talks_limit v_X_draft_dues_width v_X_draft_dues_limit v_X_draft_sights_width v_X_draft_sights_limit v_X_draft_people_width v_X_draft_people_limit k49 x1 x2 1 v_X_reader_place v_X_reader_token v_X_reader_first v_X_reader_number a_X_reader_numbers v_X_draft_talks_size a_X_draft_talks_cells v_X_draft_dues_size a_X_draft_dues_cells v_X_draft_sights_size a_X_draft_sights_cells v_X_draft_people_size a_X_draft_people_cells a_X_draft_settings
        ) else (
          g_X6_isItem_80 N_X_text_cells N_X_draft_talks_cells N_X_draft_dues_cells N_X_draft_sights_cells N_X_draft_people_cells v_X_text_width v_X_text_size a_X_text_cells v_X_draft_talks_width v_X_draft_talks_limit v_X_draft_dues_width v_X_draft_dues_limit v_X_draft_sights_width v_X_draft_sights_limit v_X_draft_people_width v_X_draft_people_limit k49 x1 x2 v_X_reader_place v_X_reader_token v_X_reader_first v_X_reader_number a_X_reader_numbers v_X_draft_talks_size a_X_draft_talks_cells v_X_draft_dues_size a_X_draft_dues_cells v_X_draft_sights_size a_X_draft_sights_cells v_X_draft_people_size a_X_draft_people_cells a_X_draft_settings
        )
      ) else (
        g_X6_isItem_80 N_X_text_cells N_X_draft_talks_cells N_X_draft_dues_cells N_X_draft_sights_cells N_X_draft_people_cells v_X_text_width v_X_text_size a_X_text_cells v_X_draft_talks_width v_X_draft_talks_limit v_X_draft_dues_width v_X_draft_dues_limit v_X_draft_sights_width v_X_draft_sights_limit v_X_draft_people_width v_X_draft_people_limit k49 x1 x2 v_X_reader_place v_X_reader_token v_X_reader_first v_X_reader_number a_X_reader_numbers v_X_draft_talks_size a_X_draft_talks_cells v_X_draft_dues_size a_X_draft_dues_cells v_X_draft_sights_size a_X_draft_sights_cells v_X_draft_people_size a_X_draft_people_cells a_X_draft_settings
      )
    ) else (
      g_X6_isItem_80 N_X_text_cells N_X_draft_talks_cells N_X_draft_dues_cells N_X_draft_sights_cells N_X_draft_people_cells v_X_text_width v_X_text_size a_X_text_cells v_X_draft_talks_width v_X_draft_talks_limit v_X_draft_dues_width v_X_draft_dues_limit v_X_draft_sights_width v_X_draft_sights_limit v_X_draft_people_width v_X_draft_people_limit k49 x1 x2 v_X_reader_place v_X_reader_token v_X_reader_first v_X_reader_number a_X_reader_numbers v_X_draft_talks_size a_X_draft_talks_cells v_X_draft_dues_size a_X_draft_dues_cells v_X_draft_sights_size a_X_draft_sights_cells v_X_draft_people_size a_X_draft_people_cells a_X_draft_settings
    )
  )
def g_X6_isItem_49 (N_X_text_cells : Nat) (N_X_draft_talks_cells : Nat) (N_X_draft_dues_cells : Nat) (N_X_draft_sights_cells : Nat) (N_X_draft_people_cells : Nat) (v_X_text_width : Int32) (v_X_text_size : Int32) (a_X_text_cells : Nat → Int32) (v_X_draft_talks_width : Int32) (v_X_draft_talks_limit : Int32) (v_X_draft_dues_width : Int32) (v_X_draft_dues_limit : Int32) (v_X_draft_sights_width : Int32) (v_X_draft_sights_limit : Int32) (v_X_draft_people_width : Int32) (v_X_draft_people_limit : Int32) : Nat → Int32 → Int32 → Int32 → Int32 → Int32 → Int32 → (Nat → Int32) → Int32 → (Nat → Int32) → Int32 → (Nat → Int32) → Int32 → (Nat → Int32) → Int32 → (Nat → Int32) → (Nat → Int32) → Option (Int32 × Int32 × Int32 × Int32 × Int32 × (Nat → Int32) × Int32 × (Nat → Int32) × Int32 × (Nat → Int32) × Int32 × (Nat → Int32) × Int32 × (Nat → Int32) × (Nat → Int32))
  | 0, _, _, _, _, _, _, _, _, _, _, _, _, _, _, _, _ => none
  | n + 1, x1, x2, v_X_reader_place, v_X_reader_token, v_X_reader_first, v_X_reader_number, a_X_reader_numbers, v_X_draft_talks_size, a_X_draft_talks_cells, v_X_draft_dues_size, a_X_draft_dues_cells, v_X_draft_sights_size, a_X_draft_sights_cells, v_X_draft_people_size, a_X_draft_people_cells, a_X_draft_settings => g_X6_isItem_49b N_X_text_cells N_X_draft_talks_cells N_X_draft_dues_cells N_X_draft_sights_cells N_X_draft_people_cells v_X_text_width v_X_text_size a_X_text_cells v_X_draft_talks_width v_X_draft_talks_limit v_X_draft_dues_width v_X_draft_dues_limit v_X_draft_sights_width v_X_draft_sights_limit v_X_draft_people_width v_X_draft_people_limit (g_X6_isItem_49 N_X_text_cells N_X_draft_talks_cells N_X_draft_dues_cells N_X_draft_sights_cells N_X_draft_people_cells v_X_text_width v_X_text_size a_X_text_cells v_X_draft_talks_width v_X_draft_talks_limit v_X_draft_dues_width v_X_draft_dues_limit v_X_draft_sights_width v_X_draft_sights_limit v_X_draft_people_width v_X_draft_people_limit n) x1 x2 v_X_reader_place v_X_reader_token v_X_reader_first v_X_reader_number a_X_reader_numbers v_X_draft_talks_size a_X_draft_talks_cells v_X_draft_dues_size a_X_draft_dues_cells v_X_draft_sights_size a_X_draft_sights_cells v_X_draft_people_size a_X_draft_people_cells a_X_draft_settings
def g_X6_isItem_43 (N_X_text_cells : Nat) (N_X_draft_talks_cells : Nat) (N_X_draft_dues_cells : Nat) (N_X_draft_sights_cells : Nat) (N_X_draft_people_cells : Nat) (v_X_text_width : Int32) (v_X_text_size : Int32) (a_X_text_cells : Nat → Int32) (v_X_draft_talks_width : Int32) (v_X_draft_talks_limit : Int32) (v_X_draft_dues_width : Int32) (v_X_draft_dues_limit : Int32) (v_X_draft_sights_width : Int32) (v_X_draft_sights_limit : Int32) (v_X_draft_people_width : Int32) (v_X_draft_people_limit : Int32) (x1 : Int32) (v_X_reader_place : Int32) (v_X_reader_token : Int32) (v_X_reader_first : Int32) (v_X_reader_number : Int32) (a_X_reader_numbers : Nat → Int32) (v_X_draft_talks_size : Int32) (a_X_draft_talks_cells : Nat → Int32) (v_X_draft_dues_size : Int32) (a_X_draft_dues_cells : Nat → Int32) (v_X_draft_sights_size : Int32) (a_X_draft_sights_cells : Nat → Int32) (v_X_draft_people_size : Int32) (a_X_draft_people_cells : Nat → Int32) (a_X_draft_settings : Nat → Int32) : Option (Int32 × Int32 × Int32 × Int32 × Int32 × (Nat → Int32) × Int32 × (Nat → Int32) × Int32 × (Nat → Int32) × Int32 × (Nat → Int32) × Int32 × (Nat → Int32) × (Nat → Int32)) :=
  (g_X6_advance N_X_text_cells v_X_text_width v_X_text_size a_X_text_cells v_X_reader_place v_X_reader_token v_X_reader_first v_X_reader_number).bind fun v1 =>
  g_X6_isItem_49 N_X_text_cells N_X_draft_talks_cells N_X_draft_dues_cells N_X_draft_sights_cells N_X_draft_people_cells v_X_text_width v_X_text_size a_X_text_cells v_X_draft_talks_width v_X_draft_talks_limit v_X_draft_dues_width v_X_draft_dues_limit v_X_draft_sights_width v_X_draft_sights_limit v_X_draft_people_width v_X_draft_people_limit zF x1 0 v1.1 v1.2.1 v1.2.2.1 v1.2.2.2 a_X_reader_numbers v_X_draft_talks_size a_X_draft_talks_cells v_X_draft_dues_size a_X_draft_dues_cells v_X_draft_sights_size a_X_draft_sights_cells v_X_draft_people_size a_X_draft_people_cells a_X_draft_settings
def g_X6_isItem_16 (N_X_text_cells : Nat) (N_X_draft_talks_cells : Nat) (N_X_draft_dues_cells : Nat) (N_X_draft_sights_cells : Nat) (N_X_draft_people_cells : Nat) (v_X_text_width : Int32) (v_X_text_size : Int32) (a_X_text_cells : Nat → Int32) (v_X_draft_talks_width : Int32) (v_X_draft_talks_limit : Int32) (v_X_draft_dues_width : Int32) (v_X_draft_dues_limit : Int32) (v_X_draft_sights_width : Int32) (v_X_draft_sights_limit : Int32) (v_X_draft_people_width : Int32) (v_X_draft_people_limit : Int32) (t0 : Int32) (v_X_reader_place : Int32) (v_X_reader_token : Int32) (v_X_reader_first : Int32) (v_X_reader_number : Int32) (a_X_reader_numbers : Nat → Int32) (v_X_draft_talks_size : Int32) (a_X_draft_talks_cells : Nat → Int32) (v_X_draft_dues_size : Int32) (a_X_draft_dues_cells : Nat → Int32) (v_X_draft_sights_size : Int32) (a_X_draft_sights_cells : Nat → Int32) (v_X_draft_people_size : Int32) (a_X_draft_people_cells : Nat → Int32) (a_X_draft_settings : Nat → Int32) : Option (Int32 × Int32 × Int32 × Int32 × Int32 × (Nat → Int32) × Int32 × (Nat → Int32) × Int32 × (Nat → Int32) × Int32 × (Nat → Int32) × Int32 × (Nat → Int32) × (Nat → Int32)) :=
  if t0 = (-1) then (
    some (0, v_X_reader_place, v_X_reader_token, v_X_reader_first, v_X_reader_number, a_X_reader_numbers, v_X_draft_talks_size, a_X_draft_talks_cells, v_X_draft_dues_size, a_X_draft_dues_cells, v_X_draft_sights_size, a_X_draft_sights_cells, v_X_draft_people_size, a_X_draft_people_cells, a_X_draft_settings)
  ) else (
    if t0 < 3 then (
      g_X6_isItem_43 N_X_text_cells N_X_draft_talks_cells N_X_draft_dues_cells N_X_draft_sights_cells N_X_draft_people_cells v_X_text_width v_X_text_size a_X_text_cells v_X_draft_talks_width v_X_draft_talks_limit v_X_draft_dues_width v_X_draft_dues_limit v_X_draft_sights_width v_X_draft_sights_limit v_X_draft_people_width v_X_draft_people_limit t0 v_X_reader_place v_X_reader_token v_X_reader_first v_X_reader_number a_X_reader_numbers v_X_draft_talks_size a_X_draft_talks_cells v_X_draft_dues_size a_X_draft_dues_cells v_X_draft_sights_size a_X_draft_sights_cells v_X_draft_people_size a_X_draft_people_cells a_X_draft_settings
    ) else (
      (g_X9_rowsOf t0).bind fun v16 =>
      if v16 = 0 then (
        (g_X7_isFull v_X_draft_talks_limit v_X_draft_talks_size).bind fun v18 =>
        if v18 = 0 then (
          g_X6_isItem_43 N_X_text_cells N_X_draft_talks_cells N_X_draft_dues_cells N_X_draft_sights_cells N_X_draft_people_cells v_X_text_width v_X_text_size a_X_text_cells v_X_draft_talks_width v_X_draft_talks_limit v_X_draft_dues_width v_X_draft_dues_limit v_X_draft_sights_width v_X_draft_sights_limit v_X_draft_people_width v_X_draft_people_limit t0 v_X_reader_place v_X_reader_token v_X_reader_first v_X_reader_number a_X_reader_numbers v_X_draft_talks_size a_X_draft_talks_cells v_X_draft_dues_size a_X_draft_dues_cells v_X_draft_sights_size a_X_draft_sights_cells v_X_draft_people_size a_X_draft_people_cells a_X_draft_settings
        ) else (
          some (0, v_X_reader_place, v_X_reader_token, v_X_reader_first, v_X_reader_number, a_X_reader_numbers, v_X_draft_talks_size, a_X_draft_talks_cells, v_X_draft_dues_size, a_X_draft_dues_cells, v_X_draft_sights_size, a_X_draft_sights_cells, v_X_draft_people_size, a_X_draft_people_cells, a_X_draft_settings)
        )
      ) else
      if v16 = 1 then (
        (g_X7_isFull v_X_draft_dues_limit v_X_draft_dues_size).bind fun v20 =>
        if v20 = 0 then (
          g_X6_isItem_43 N_X_text_cells N_X_draft_talks_cells N_X_draft_dues_cells N_X_draft_sights_cells N_X_draft_people_cells v_X_text_width v_X_text_size a_X_text_cells v_X_draft_talks_width v_X_draft_talks_limit v_X_draft_dues_width v_X_draft_dues_limit v_X_draft_sights_width v_X_draft_sights_limit v_X_draft_people_width v_X_draft_people_limit t0 v_X_reader_place v_X_reader_token v_X_reader_first v_X_reader_number a_X_reader_numbers v_X_draft_talks_size a_X_draft_talks_cells v_X_draft_dues_size a_X_draft_dues_cells v_X_draft_sights_size a_X_draft_sights_cells v_X_draft_people_size a_X_draft_people_cells a_X_draft_settings
        ) else (
          some (0, v_X_reader_place, v_X_reader_token, v_X_reader_first, v_X_reader_number, a_X_reader_numbers, v_X_draft_talks_size, a_X_draft_talks_cells, v_X_draft_dues_size, a_X_draft_dues_cells, v_X_draft_sights_size, a_X_draft_sights_cells, v_X_draft_people_size, a_X_draft_people_cells, a_X_draft_settings)
        )
      ) else
      if v16 = 2 then (
        (g_X7_isFull v_X_draft_sights_limit v_X_draft_sights_size).bind fun v22 =>
        if v22 = 0 then (
          g_X6_isItem_43 N_X_text_cells N_X_draft_talks_cells N_X_draft_dues_cells N_X_draft_sights_cells N_X_draft_people_cells v_X_text_width v_X_text_size a_X_text_cells v_X_draft_talks_width v_X_draft_talks_limit v_X_draft_dues_width v_X_draft_dues_limit v_X_draft_sights_width v_X_draft_sights_limit v_X_draft_people_width v_X_draft_people_limit t0 v_X_reader_place v_X_reader_token v_X_reader_first v_X_reader_number a_X_reader_numbers v_X_draft_talks_size a_X_draft_talks_cells v_X_draft_dues_size a_X_draft_dues_cells v_X_draft_sights_size a_X_draft_sights_cells v_X_draft_people_size a_X_draft_people_cells a_X_draft_settings
        ) else (
          some (0, v_X_reader_place, v_X_reader_token, v_X_reader_first, v_X_reader_number, a_X_reader_numbers, v_X_draft_talks_size, a_X_draft_talks_cells, v_X_draft_dues_size, a_X_draft_dues_cells, v_X_draft_sights_size, a_X_draft_sights_cells, v_X_draft_people_size, a_X_draft_people_cells, a_X_draft_settings)
        )
      ) else
      if v16 = 3 then (
        (g_X7_isFull v_X_draft_people_limit v_X_draft_people_size).bind fun v24 =>
        if v24 = 0 then (
          g_X6_isItem_43 N_X_text_cells N_X_draft_talks_cells N_X_draft_dues_cells N_X_draft_sights_cells N_X_draft_people_cells v_X_text_width v_X_text_size a_X_text_cells v_X_draft_talks_width v_X_draft_talks_limit v_X_draft_dues_width v_X_draft_dues_limit v_X_draft_sights_width v_X_draft_sights_limit v_X_draft_people_width v_X_draft_people_limit t0 v_X_reader_place v_X_reader_token v_X_reader_first v_X_reader_number a_X_reader_numbers v_X_draft_talks_size a_X_draft_talks_cells v_X_draft_dues_size a_X_draft_dues_cells v_X_draft_sights_size a_X_draft_sights_cells v_X_draft_people_size a_X_draft_people_cells a_X_draft_settings
        ) else (
          some (0, v_X_reader_place, v_X_reader_token, v_X_reader_first, v_X_reader_number, a_X_reader_numbers, v_X_draft_talks_size, a_X_draft_talks_cells, v_X_draft_dues_size, a_X_draft_dues_cells, v_X_draft_sights_size, a_X_draft_sights_cells, v_X_draft_people_size, a_X_draft_people_cells, a_X_draft_settings)
        )
      ) else
      none
    )
  )
def g_X6_isItem (N_X_text_cells : Nat) (N_X_draft_talks_cells : Nat) (N_X_draft_dues_cells : Nat) (N_X_draft_sights_cells : Nat) (N_X_draft_people_cells : Nat) (v_X_text_width : Int32) (v_X_text_size : Int32) (a_X_text_cells : Nat → Int32) (v_X_draft_talks_width : Int32) (v_X_draft_talks_limit : Int32) (v_X_draft_dues_width : Int32) (v_X_draft_dues_limit : Int32) (v_X_draft_sights_width : Int32) (v_X_draft_sights_limit : Int32) (v_X_draft_people_width : Int32) (v_X_draft_people_limit : Int32) (v_X_reader_place : Int32) (v_X_reader_token : Int32) (v_X_reader_first : Int32) (v_X_reader_number : Int32) (a_X_reader_numbers : Nat → Int32) (v_X_draft_talks_size : Int32) (a_X_draft_talks_cells : Nat → Int32) (v_X_draft_dues_size : Int32) (a_X_draft_dues_cells : Nat → Int32) (v_X_draft_sights_size : Int32) (a_X_draft_sights_cells : Nat → Int32) (v_X_draft_people_size : Int32) (a_X_draft_people_cells : Nat → Int32) (a_X_draft_settings : Nat → Int32) : Option (Int32 × Int32 × Int32 × Int32 × Int32 × (Nat → Int32) × Int32 × (Nat → Int32) × Int32 × (Nat → Int32) × Int32 × (Nat → Int32) × Int32 × (Nat → Int32) × (Nat → Int32)) :=
  if v_X_reader_token = 1 then (
    (g_X6_itemAtHand N_X_text_cells v_X_reader_place v_X_reader_first v_X_text_width v_X_text_size a_X_text_cells).bind fun v26 =>
    g_X6_isItem_16 N_X_text_cells N_X_draft_talks_cells N_X_draft_dues_cells N_X_draft_sights_cells N_X_draft_people_cells v_X_text_width v_X_text_size a_X_text_cells v_X_draft_talks_width v_X_draft_talks_limit v_X_draft_dues_width v_X_draft_dues_limit v_X_draft_sights_width v_X_draft_sights_limit v_X_draft_people_width v_X_draft_people_limit v26 v_X_reader_place v_X_reader_token v_X_reader_first v_X_reader_number a_X_reader_numbers v_X_draft_talks_size a_X_draft_talks_cells v_X_draft_dues_size a_X_draft_dues_cells v_X_draft_sights_size a_X_draft_sights_cells v_X_draft_people_size a_X_draft_people_cells a_X_draft_settings
  ) else (
    g_X6_isItem_16 N_X_text_cells N_X_draft_talks_cells N_X_draft_dues_cells N_X_draft_sights_cells N_X_draft_people_cells v_X_text_width v_X_text_size a_X_text_cells v_X_draft_talks_width v_X_draft_talks_limit v_X_draft_dues_width v_X_draft_dues_limit v_X_draft_sights_width v_X_draft_sights_limit v_X_draft_people_width v_X_draft_people_limit (-1) v_X_reader_place v_X_reader_token v_X_reader_first v_X_reader_number a_X_reader_numbers v_X_draft_talks_size a_X_draft_talks_cells v_X_draft_dues_size a_X_draft_dues_cells v_X_draft_sights_size a_X_draft_sights_cells v_X_draft_people_size a_X_draft_people_cells a_X_draft_settings
  )
theorem hd_X6_isItem : yX6_isItem.cls = RX6 ∧ yX6_isItem.cls ≠ "java/lang/invoke/MethodHandle" ∧ yX6_isItem.cls ≠ "java/lang/invoke/VarHandle" ∧ (parseMethodDescriptor yX6_isItem.desc).map (fun d => d.parameters.length) = some 0 := by decide +kernel
set_option maxHeartbeats 4000000 in
set_option maxRecDepth 100000 in
theorem c_X6_isItem (l : Launch) (D : va_G) (cI cJ cZ cA : ClassId) (ga : Nat → Nat) (q_X_reader q_X_text q_X_text_cells q_X_draft q_X_reader_numbers q_X_draft_talks q_X_draft_talks_cells q_X_draft_dues q_X_draft_dues_cells q_X_draft_sights q_X_draft_sights_cells q_X_draft_people q_X_draft_people_cells q_X_draft_settings : Nat) (u_X_text_limit : Value) (u_X_draft_rule : Value) (u_X_draft_stake : Value) (N_X_text_cells : Nat) (N_X_draft_talks_cells : Nat) (N_X_draft_dues_cells : Nat) (N_X_draft_sights_cells : Nat) (N_X_draft_people_cells : Nat) (v_X_reader_place : Int32) (v_X_reader_token : Int32) (v_X_reader_first : Int32) (v_X_reader_number : Int32) (v_X_text_width : Int32) (v_X_text_size : Int32) (a_X_text_cells : Nat → Int32) (a_X_reader_numbers : Nat → Int32) (v_X_draft_talks_width : Int32) (v_X_draft_talks_limit : Int32) (v_X_draft_talks_size : Int32) (a_X_draft_talks_cells : Nat → Int32) (v_X_draft_dues_width : Int32) (v_X_draft_dues_limit : Int32) (v_X_draft_dues_size : Int32) (a_X_draft_dues_cells : Nat → Int32) (v_X_draft_sights_width : Int32) (v_X_draft_sights_limit : Int32) (v_X_draft_sights_size : Int32) (a_X_draft_sights_cells : Nat → Int32) (v_X_draft_people_width : Int32) (v_X_draft_people_limit : Int32) (v_X_draft_people_size : Int32) (a_X_draft_people_cells : Nat → Int32) (a_X_draft_settings : Nat → Int32) (o : Int32 × Int32 × Int32 × Int32 × Int32 × (Nat → Int32) × Int32 × (Nat → Int32) × Int32 × (Nat → Int32) × Int32 × (Nat → Int32) × Int32 × (Nat → Int32) × (Nat → Int32)) (hg : g_X6_isItem N_X_text_cells N_X_draft_talks_cells N_X_draft_dues_cells N_X_draft_sights_cells N_X_draft_people_cells v_X_text_width v_X_text_size a_X_text_cells v_X_draft_talks_width v_X_draft_talks_limit v_X_draft_dues_width v_X_draft_dues_limit v_X_draft_sights_width v_X_draft_sights_limit v_X_draft_people_width v_X_draft_people_limit v_X_reader_place v_X_reader_token v_X_reader_first v_X_reader_number a_X_reader_numbers v_X_draft_talks_size a_X_draft_talks_cells v_X_draft_dues_size a_X_draft_dues_cells v_X_draft_sights_size a_X_draft_sights_cells v_X_draft_people_size a_X_draft_people_cells a_X_draft_settings = some o) : zM l yX6_isItem (Cond.code yX6_isItem cX6_isItem 5 (some .boolean) :: wsL_law) rm_X6_isItem D (zTy cI cJ cZ cA) ga [.ref q_X_reader] (ws_X6_isItem cI cJ cZ cA q_X_reader q_X_text q_X_text_cells q_X_draft q_X_reader_numbers q_X_draft_talks q_X_draft_talks_cells q_X_draft_dues q_X_draft_dues_cells q_X_draft_sights q_X_draft_sights_cells q_X_draft_people q_X_draft_people_cells q_X_draft_settings u_X_text_limit u_X_draft_rule u_X_draft_stake N_X_text_cells N_X_draft_talks_cells N_X_draft_dues_cells N_X_draft_sights_cells N_X_draft_people_cells v_X_reader_place v_X_reader_token v_X_reader_first v_X_reader_number v_X_text_width v_X_text_size a_X_text_cells a_X_reader_numbers v_X_draft_talks_width v_X_draft_talks_limit v_X_draft_talks_size a_X_draft_talks_cells v_X_draft_dues_width v_X_draft_dues_limit v_X_draft_dues_size a_X_draft_dues_cells v_X_draft_sights_width v_X_draft_sights_limit v_X_draft_sights_size a_X_draft_sights_cells v_X_draft_people_width v_X_draft_people_limit v_X_draft_people_size a_X_draft_people_cells a_X_draft_settings) (ws_X6_isItem cI cJ cZ cA q_X_reader q_X_text q_X_text_cells q_X_draft q_X_reader_numbers q_X_draft_talks q_X_draft_talks_cells q_X_draft_dues q_X_draft_dues_cells q_X_draft_sights q_X_draft_sights_cells q_X_draft_people q_X_draft_people_cells q_X_draft_settings u_X_text_limit u_X_draft_rule u_X_draft_stake N_X_text_cells N_X_draft_talks_cells N_X_draft_dues_cells N_X_draft_sights_cells N_X_draft_people_cells o.2.1 o.2.2.1 o.2.2.2.1 o.2.2.2.2.1 v_X_text_width v_X_text_size a_X_text_cells o.2.2.2.2.2.1 v_X_draft_talks_width v_X_draft_talks_limit o.2.2.2.2.2.2.1 o.2.2.2.2.2.2.2.1 v_X_draft_dues_width v_X_draft_dues_limit o.2.2.2.2.2.2.2.2.1 o.2.2.2.2.2.2.2.2.2.1 v_X_draft_sights_width v_X_draft_sights_limit o.2.2.2.2.2.2.2.2.2.2.1 o.2.2.2.2.2.2.2.2.2.2.2.1 v_X_draft_people_width v_X_draft_people_limit o.2.2.2.2.2.2.2.2.2.2.2.2.1 o.2.2.2.2.2.2.2.2.2.2.2.2.2.1 o.2.2.2.2.2.2.2.2.2.2.2.2.2.2) (some (.int o.1)) := by
  refine zenterN (own := RX6) (by decide) rfl rfl (Nat.le_of_ble_eq_true rfl) ?_
  intro p e s m args below meth c A ls Q S hA hK hG hl hP hD hS hret0
  have hx := S.1
  have hb := S.2.1
  have ht : ∀ w, w ∈ wsL_law → w.before args s = true := fun w h => S.2.2.2.2 w (List.mem_cons_of_mem _ h)
  have hret : ∀ (r9 : Int32) (v_X_reader_place : Int32) (v_X_reader_token : Int32) (v_X_reader_first : Int32) (v_X_reader_number : Int32) (a_X_reader_numbers : Nat → Int32) (v_X_draft_talks_size : Int32) (a_X_draft_talks_cells : Nat → Int32) (v_X_draft_dues_size : Int32) (a_X_draft_dues_cells : Nat → Int32) (v_X_draft_sights_size : Int32) (a_X_draft_sights_cells : Nat → Int32) (v_X_draft_people_size : Int32) (a_X_draft_people_cells : Nat → Int32) (a_X_draft_settings : Nat → Int32), (some (r9, v_X_reader_place, v_X_reader_token, v_X_reader_first, v_X_reader_number, a_X_reader_numbers, v_X_draft_talks_size, a_X_draft_talks_cells, v_X_draft_dues_size, a_X_draft_dues_cells, v_X_draft_sights_size, a_X_draft_sights_cells, v_X_draft_people_size, a_X_draft_people_cells, a_X_draft_settings) : Option (Int32 × Int32 × Int32 × Int32 × Int32 × (Nat → Int32) × Int32 × (Nat → Int32) × Int32 × (Nat → Int32) × Int32 × (Nat → Int32) × Int32 × (Nat → Int32) × (Nat → Int32))) = some o → narrow .boolean (.int r9) = .int r9 → ∀ (H : Heap) (locs : List Loc) (pc : Nat) (ls : Array Slot), va_P D vwCl (ws_X6_isItem cI cJ cZ cA q_X_reader q_X_text q_X_text_cells q_X_draft q_X_reader_numbers q_X_draft_talks q_X_draft_talks_cells q_X_draft_dues q_X_draft_dues_cells q_X_draft_sights q_X_draft_sights_cells q_X_draft_people q_X_draft_people_cells q_X_draft_settings u_X_text_limit u_X_draft_rule u_X_draft_stake N_X_text_cells N_X_draft_talks_cells N_X_draft_dues_cells N_X_draft_sights_cells N_X_draft_people_cells v_X_reader_place v_X_reader_token v_X_reader_first v_X_reader_number v_X_text_width v_X_text_size a_X_text_cells a_X_reader_numbers v_X_draft_talks_width v_X_draft_talks_limit v_X_draft_talks_size a_X_draft_talks_cells v_X_draft_dues_width v_X_draft_dues_limit v_X_draft_dues_size a_X_draft_dues_cells v_X_draft_sights_width v_X_draft_sights_limit v_X_draft_sights_size a_X_draft_sights_cells v_X_draft_people_width v_X_draft_people_limit v_X_draft_people_size a_X_draft_people_cells a_X_draft_settings) H → va_S A s.heap H locs → decode cX6_isItem pc = .ok (.ireturn, 1) → W p l e rm_X6_isItem s m args below meth c H locs 0 0 Q (F0 m pc ls [.int r9]) := by
    intro r9 v_X_reader_place v_X_reader_token v_X_reader_first v_X_reader_number a_X_reader_numbers v_X_draft_talks_size a_X_draft_talks_cells v_X_draft_dues_size a_X_draft_dues_cells v_X_draft_sights_size a_X_draft_sights_cells v_X_draft_people_size a_X_draft_people_cells a_X_draft_settings he; cases he; exact hret0
  have hl : lv_has ls 5 [(0, .ref q_X_reader)] := hl
  have B140 : ∀ (k49 : Int32 → Int32 → Int32 → Int32 → Int32 → Int32 → (Nat → Int32) → Int32 → (Nat → Int32) → Int32 → (Nat → Int32) → Int32 → (Nat → Int32) → Int32 → (Nat → Int32) → (Nat → Int32) → Option (Int32 × Int32 × Int32 × Int32 × Int32 × (Nat → Int32) × Int32 × (Nat → Int32) × Int32 × (Nat → Int32) × Int32 × (Nat → Int32) × Int32 × (Nat → Int32) × (Nat → Int32))) (hk49 : ∀ (x1 : Int32) (x2 : Int32) (v_X_reader_place : Int32) (v_X_reader_token : Int32) (v_X_reader_first : Int32) (v_X_reader_number : Int32) (a_X_reader_numbers : Nat → Int32) (v_X_draft_talks_size : Int32) (a_X_draft_talks_cells : Nat → Int32) (v_X_draft_dues_size : Int32) (a_X_draft_dues_cells : Nat → Int32) (v_X_draft_sights_size : Int32) (a_X_draft_sights_cells : Nat → Int32) (v_X_draft_people_size : Int32) (a_X_draft_people_cells : Nat → Int32) (a_X_draft_settings : Nat → Int32) (H : Heap) (locs : List Loc) (ls : Array Slot) (hl : lv_has ls 5 [(0, .ref q_X_reader), (1, .int x1), (2, .int x2)]) (hP : va_P D vwCl (ws_X6_isItem cI cJ cZ cA q_X_reader q_X_text q_X_text_cells q_X_draft q_X_reader_numbers q_X_draft_talks q_X_draft_talks_cells q_X_draft_dues q_X_draft_dues_cells q_X_draft_sights q_X_draft_sights_cells q_X_draft_people q_X_draft_people_cells q_X_draft_settings u_X_text_limit u_X_draft_rule u_X_draft_stake N_X_text_cells N_X_draft_talks_cells N_X_draft_dues_cells N_X_draft_sights_cells N_X_draft_people_cells v_X_reader_place v_X_reader_token v_X_reader_first v_X_reader_number v_X_text_width v_X_text_size a_X_text_cells a_X_reader_numbers v_X_draft_talks_width v_X_draft_talks_limit v_X_draft_talks_size a_X_draft_talks_cells v_X_draft_dues_width v_X_draft_dues_limit v_X_draft_dues_size a_X_draft_dues_cells v_X_draft_sights_width v_X_draft_sights_limit v_X_draft_sights_size a_X_draft_sights_cells v_X_draft_people_width v_X_draft_people_limit v_X_draft_people_size a_X_draft_people_cells a_X_draft_settings) H) (hD : va_D A (ws_X6_isItem cI cJ cZ cA q_X_reader q_X_text q_X_text_cells q_X_draft q_X_reader_numbers q_X_draft_talks q_X_draft_talks_cells q_X_draft_dues q_X_draft_dues_cells q_X_draft_sights q_X_draft_sights_cells q_X_draft_people q_X_draft_people_cells q_X_draft_settings u_X_text_limit u_X_draft_rule u_X_draft_stake N_X_text_cells N_X_draft_talks_cells N_X_draft_dues_cells N_X_draft_sights_cells N_X_draft_people_cells v_X_reader_place v_X_reader_token v_X_reader_first v_X_reader_number v_X_text_width v_X_text_size a_X_text_cells a_X_reader_numbers v_X_draft_talks_width v_X_draft_talks_limit v_X_draft_talks_size a_X_draft_talks_cells v_X_draft_dues_width v_X_draft_dues_limit v_X_draft_dues_size a_X_draft_dues_cells v_X_draft_sights_width v_X_draft_sights_limit v_X_draft_sights_size a_X_draft_sights_cells v_X_draft_people_width v_X_draft_people_limit v_X_draft_people_size a_X_draft_people_cells a_X_draft_settings)) (hS : va_S A s.heap H locs), k49 x1 x2 v_X_reader_place v_X_reader_token v_X_reader_first v_X_reader_number a_X_reader_numbers v_X_draft_talks_size a_X_draft_talks_cells v_X_draft_dues_size a_X_draft_dues_cells v_X_draft_sights_size a_X_draft_sights_cells v_X_draft_people_size a_X_draft_people_cells a_X_draft_settings = some o → W p l e rm_X6_isItem s m args below meth c H locs 0 0 Q (F0 m 49 ls [])) (x1 : Int32) (x2 : Int32) (x4 : Int32) (t1 : Int32) (t2 : Int32) (t3 : Int32) (t4 : Int32) (v_X_reader_place : Int32) (v_X_reader_token : Int32) (v_X_reader_first : Int32) (v_X_reader_number : Int32) (a_X_reader_numbers : Nat → Int32) (v_X_draft_talks_size : Int32) (a_X_draft_talks_cells : Nat → Int32) (v_X_draft_dues_size : Int32) (a_X_draft_dues_cells : Nat → Int32) (v_X_draft_sights_size : Int32) (a_X_draft_sights_cells : Nat → Int32) (v_X_draft_people_size : Int32) (a_X_draft_people_cells : Nat → Int32) (a_X_draft_settings : Nat → Int32) (H : Heap) (locs : List Loc) (ls : Array Slot) (hl : lv_has ls 5 [(0, .ref q_X_reader), (1, .int x1), (2, .int x2), (4, .int x4)]) (hP : va_P D vwCl (ws_X6_isItem cI cJ cZ cA q_X_reader q_X_text q_X_text_cells q_X_draft q_X_reader_numbers q_X_draft_talks q_X_draft_talks_cells q_X_draft_dues q_X_draft_dues_cells q_X_draft_sights q_X_draft_sights_cells q_X_draft_people q_X_draft_people_cells q_X_draft_settings u_X_text_limit u_X_draft_rule u_X_draft_stake N_X_text_cells N_X_draft_talks_cells N_X_draft_dues_cells N_X_draft_sights_cells N_X_draft_people_cells v_X_reader_place v_X_reader_token v_X_reader_first v_X_reader_number v_X_text_width v_X_text_size a_X_text_cells a_X_reader_numbers v_X_draft_talks_width v_X_draft_talks_limit v_X_draft_talks_size a_X_draft_talks_cells v_X_draft_dues_width v_X_draft_dues_limit v_X_draft_dues_size a_X_draft_dues_cells v_X_draft_sights_width v_X_draft_sights_limit v_X_draft_sights_size a_X_draft_sights_cells v_X_draft_people_width v_X_draft_people_limit v_X_draft_people_size a_X_draft_people_cells a_X_draft_settings) H) (hD : va_D A (ws_X6_isItem cI cJ cZ cA q_X_reader q_X_text q_X_text_cells q_X_draft q_X_reader_numbers q_X_draft_talks q_X_draft_talks_cells q_X_draft_dues q_X_draft_dues_cells q_X_draft_sights q_X_draft_sights_cells q_X_draft_people q_X_draft_people_cells q_X_draft_settings u_X_text_limit u_X_draft_rule u_X_draft_stake N_X_text_cells N_X_draft_talks_cells N_X_draft_dues_cells N_X_draft_sights_cells N_X_draft_people_cells v_X_reader_place v_X_reader_token v_X_reader_first v_X_reader_number v_X_text_width v_X_text_size a_X_text_cells a_X_reader_numbers v_X_draft_talks_width v_X_draft_talks_limit v_X_draft_talks_size a_X_draft_talks_cells v_X_draft_dues_width v_X_draft_dues_limit v_X_draft_dues_size a_X_draft_dues_cells v_X_draft_sights_width v_X_draft_sights_limit v_X_draft_sights_size a_X_draft_sights_cells v_X_draft_people_width v_X_draft_people_limit v_X_draft_people_size a_X_draft_people_cells a_X_draft_settings)) (hS : va_S A s.heap H locs), g_X6_isItem_140 N_X_text_cells N_X_draft_talks_cells N_X_draft_dues_cells N_X_draft_sights_cells N_X_draft_people_cells v_X_text_width v_X_text_size a_X_text_cells v_X_draft_talks_width v_X_draft_talks_limit v_X_draft_dues_width v_X_draft_dues_limit v_X_draft_sights_width v_X_draft_sights_limit v_X_draft_people_width v_X_draft_people_limit k49 x1 x2 x4 t1 t2 t3 t4 v_X_reader_place v_X_reader_token v_X_reader_first v_X_reader_number a_X_reader_numbers v_X_draft_talks_size a_X_draft_talks_cells v_X_draft_dues_size a_X_draft_dues_cells v_X_draft_sights_size a_X_draft_sights_cells v_X_draft_people_size a_X_draft_people_cells a_X_draft_settings = some o → W p l e rm_X6_isItem s m args below meth c H locs 0 0 Q (F0 m 140 ls [.int t4, .int t3, .int t2, .int t1, .ref q_X_draft]) := by
    intro k49 hk49 x1 x2 x4 t1 t2 t3 t4 v_X_reader_place v_X_reader_token v_X_reader_first v_X_reader_number a_X_reader_numbers v_X_draft_talks_size a_X_draft_talks_cells v_X_draft_dues_size a_X_draft_dues_cells v_X_draft_sights_size a_X_draft_sights_cells v_X_draft_people_size a_X_draft_people_cells a_X_draft_settings H locs ls hl hP hD hS hg
    obtain ⟨v8, hc9, hg⟩ := zbd hg
    refine zcallV (rest := []) S (c_X9_isAsTold l D cI cJ cZ cA ga q_X_draft q_X_draft_people (.ref q_X_draft_talks) (.ref q_X_draft_dues) (.ref q_X_draft_sights) u_X_draft_rule (.ref q_X_draft_settings) u_X_draft_stake (.int v_X_draft_people_width) (.int v_X_draft_people_limit) (.ref q_X_draft_people_cells) v_X_draft_people_size t1 t2 t3 t4 v8 hc9) (zgV zw_438 zw_176 zw_177 zw_23 zw_178) rfl hd_X9_isAsTold ⟨rfl, rfl⟩ ⟨Nat.le_of_ble_eq_true rfl, Nat.le_of_ble_eq_true rfl⟩ 3 9 rfl rfl rfl hl.1 rfl (Nat.le_of_ble_eq_true rfl) dX6_isItem_140 hP hD hS hA hK hG (isC := [3, 11]) rfl (by decide +kernel) rfl ⟨Nat.zero_le _, Nat.zero_le _⟩ (pl := [none, none, none, some 0, none, none, none, none, none, none, none, some 1, none, none]) (nw := 14) rfl (by decide +kernel) (w2 := (ws_X6_isItem cI cJ cZ cA q_X_reader q_X_text q_X_text_cells q_X_draft q_X_reader_numbers q_X_draft_talks q_X_draft_talks_cells q_X_draft_dues q_X_draft_dues_cells q_X_draft_sights q_X_draft_sights_cells q_X_draft_people q_X_draft_people_cells q_X_draft_settings u_X_text_limit u_X_draft_rule u_X_draft_stake N_X_text_cells N_X_draft_talks_cells N_X_draft_dues_cells N_X_draft_sights_cells N_X_draft_people_cells v_X_reader_place v_X_reader_token v_X_reader_first v_X_reader_number v_X_text_width v_X_text_size a_X_text_cells a_X_reader_numbers v_X_draft_talks_width v_X_draft_talks_limit v_X_draft_talks_size a_X_draft_talks_cells v_X_draft_dues_width v_X_draft_dues_limit v_X_draft_dues_size a_X_draft_dues_cells v_X_draft_sights_width v_X_draft_sights_limit v_X_draft_sights_size a_X_draft_sights_cells v_X_draft_people_width v_X_draft_people_limit v_X_draft_people_size a_X_draft_people_cells a_X_draft_settings)) rfl (st1 := [.int v8]) rfl (fun H locs hP hD hS => ?_)
    refine lv_if_ne (tgt := 148) hx hb dX6_isItem_143 (by decide) (fun h143 => ?_) (fun h143 => ?_)
    · have hg := zn hg h143
      refine lv_aload_n hx hb dX6_isItem_148 rfl (lv_at hl 0 rfl) ?_
      refine zget (C := RX6) (T := TX6) (N := 7) S hK hP 0 rfl rfl 2 (Nat.le_of_ble_eq_true rfl) zf_6 zw_126 rfl dX6_isItem_149 ?_
      refine lv_iload_n hx hb dX6_isItem_152 rfl (lv_at hl 2 rfl) ?_
      refine lv_iload hx hb dX6_isItem_153 (lv_at hl 3 rfl) ?_
      obtain ⟨h10, hg⟩ := zck hg
      refine ziast hx hb hK hP hD hS 4 0 rfl rfl (j := (x2.toNatClampNeg)) h10 rfl dX6_isItem_155 (w2 := (ws_X6_isItem cI cJ cZ cA q_X_reader q_X_text q_X_text_cells q_X_draft q_X_reader_numbers q_X_draft_talks q_X_draft_talks_cells q_X_draft_dues q_X_draft_dues_cells q_X_draft_sights q_X_draft_sights_cells q_X_draft_people q_X_draft_people_cells q_X_draft_settings u_X_text_limit u_X_draft_rule u_X_draft_stake N_X_text_cells N_X_draft_talks_cells N_X_draft_dues_cells N_X_draft_sights_cells N_X_draft_people_cells v_X_reader_place v_X_reader_token v_X_reader_first v_X_reader_number v_X_text_width v_X_text_size a_X_text_cells (upd a_X_reader_numbers (x2.toNatClampNeg) x4) v_X_draft_talks_width v_X_draft_talks_limit v_X_draft_talks_size a_X_draft_talks_cells v_X_draft_dues_width v_X_draft_dues_limit v_X_draft_dues_size a_X_draft_dues_cells v_X_draft_sights_width v_X_draft_sights_limit v_X_draft_sights_size a_X_draft_sights_cells v_X_draft_people_width v_X_draft_people_limit v_X_draft_people_size a_X_draft_people_cells a_X_draft_settings)) rfl (fun H locs hP hD hS => ?_)
      refine lv_aload_n hx hb dX6_isItem_156 rfl (lv_at hl 0 rfl) ?_
      obtain ⟨v11, hc12, hg⟩ := zbd hg
      refine zcallV (rest := []) S (c_X6_advance l D cI cJ cZ cA ga q_X_reader q_X_text q_X_text_cells (.ref q_X_draft) (.ref q_X_reader_numbers) u_X_text_limit N_X_text_cells v_X_reader_place v_X_reader_token v_X_reader_first v_X_reader_number v_X_text_width v_X_text_size a_X_text_cells v11 hc12) (zgV zw_347 zw_348 zw_349 zw_41 zw_350) rfl hd_X6_advance ⟨rfl, rfl⟩ ⟨Nat.le_of_ble_eq_true rfl, Nat.le_of_ble_eq_true rfl⟩ 0 6 rfl rfl rfl hl.1 rfl (Nat.le_of_ble_eq_true rfl) dX6_isItem_157 hP hD hS hA hK hG (isC := [0, 1, 2]) rfl (by decide +kernel) rfl ⟨Nat.zero_le _, Nat.zero_le _⟩ (pl := [some 0, some 1, some 2, none, none, none, none, none, none, none, none, none, none, none]) (nw := 14) rfl (by decide +kernel) (w2 := (ws_X6_isItem cI cJ cZ cA q_X_reader q_X_text q_X_text_cells q_X_draft q_X_reader_numbers q_X_draft_talks q_X_draft_talks_cells q_X_draft_dues q_X_draft_dues_cells q_X_draft_sights q_X_draft_sights_cells q_X_draft_people q_X_draft_people_cells q_X_draft_settings u_X_text_limit u_X_draft_rule u_X_draft_stake N_X_text_cells N_X_draft_talks_cells N_X_draft_dues_cells N_X_draft_sights_cells N_X_draft_people_cells v11.1 v11.2.1 v11.2.2.1 v11.2.2.2 v_X_text_width v_X_text_size a_X_text_cells (upd a_X_reader_numbers (x2.toNatClampNeg) x4) v_X_draft_talks_width v_X_draft_talks_limit v_X_draft_talks_size a_X_draft_talks_cells v_X_draft_dues_width v_X_draft_dues_limit v_X_draft_dues_size a_X_draft_dues_cells v_X_draft_sights_width v_X_draft_sights_limit v_X_draft_sights_size a_X_draft_sights_cells v_X_draft_people_width v_X_draft_people_limit v_X_draft_people_size a_X_draft_people_cells a_X_draft_settings)) rfl (st1 := []) rfl (fun H locs hP hD hS => ?_)
      refine lv_iinc (k := 2) (v := x2 + 1) (lv' := [(2, .int (x2 + 1)), (0, .ref q_X_reader), (1, .int x1), (4, .int x4)]) hx hb dX6_isItem_160 hl rfl (zinc (by decide)) (by decide) rfl (fun ls hl => ?_)
      refine lv_goto (tgt := 49) hx hb dX6_isItem_163 (by decide) ?_
      exact hk49 x1 (x2 + 1) v11.1 v11.2.1 v11.2.2.1 v11.2.2.2 (upd a_X_reader_numbers (x2.toNatClampNeg) x4) v_X_draft_talks_size a_X_draft_talks_cells v_X_draft_dues_size a_X_draft_dues_cells v_X_draft_sights_size a_X_draft_sights_cells v_X_draft_people_size a_X_draft_people_cells a_X_draft_settings _ _ _ (lv_sub hl [1, 2, 0] rfl) hP hD hS hg
    · have hg := zp hg h143
      refine lv_iconst (v := 0) hx hb dX6_isItem_146 (by decide) ?_
      exact hret 0 v_X_reader_place v_X_reader_token v_X_reader_first v_X_reader_number a_X_reader_numbers v_X_draft_talks_size a_X_draft_talks_cells v_X_draft_dues_size a_X_draft_dues_cells v_X_draft_sights_size a_X_draft_sights_cells v_X_draft_people_size a_X_draft_people_cells a_X_draft_settings hg (zb01 (Or.inl rfl)) _ _ _ _ hP hS dX6_isItem_147
  have B106 : ∀ (k49 : Int32 → Int32 → Int32 → Int32 → Int32 → Int32 → (Nat → Int32) → Int32 → (Nat → Int32) → Int32 → (Nat → Int32) → Int32 → (Nat → Int32) → Int32 → (Nat → Int32) → (Nat → Int32) → Option (Int32 × Int32 × Int32 × Int32 × Int32 × (Nat → Int32) × Int32 × (Nat → Int32) × Int32 × (Nat → Int32) × Int32 × (Nat → Int32) × Int32 × (Nat → Int32) × (Nat → Int32))) (hk49 : ∀ (x1 : Int32) (x2 : Int32) (v_X_reader_place : Int32) (v_X_reader_token : Int32) (v_X_reader_first : Int32) (v_X_reader_number : Int32) (a_X_reader_numbers : Nat → Int32) (v_X_draft_talks_size : Int32) (a_X_draft_talks_cells : Nat → Int32) (v_X_draft_dues_size : Int32) (a_X_draft_dues_cells : Nat → Int32) (v_X_draft_sights_size : Int32) (a_X_draft_sights_cells : Nat → Int32) (v_X_draft_people_size : Int32) (a_X_draft_people_cells : Nat → Int32) (a_X_draft_settings : Nat → Int32) (H : Heap) (locs : List Loc) (ls : Array Slot) (hl : lv_has ls 5 [(0, .ref q_X_reader), (1, .int x1), (2, .int x2)]) (hP : va_P D vwCl (ws_X6_isItem cI cJ cZ cA q_X_reader q_X_text q_X_text_cells q_X_draft q_X_reader_numbers q_X_draft_talks q_X_draft_talks_cells q_X_draft_dues q_X_draft_dues_cells q_X_draft_sights q_X_draft_sights_cells q_X_draft_people q_X_draft_people_cells q_X_draft_settings u_X_text_limit u_X_draft_rule u_X_draft_stake N_X_text_cells N_X_draft_talks_cells N_X_draft_dues_cells N_X_draft_sights_cells N_X_draft_people_cells v_X_reader_place v_X_reader_token v_X_reader_first v_X_reader_number v_X_text_width v_X_text_size a_X_text_cells a_X_reader_numbers v_X_draft_talks_width v_X_draft_talks_limit v_X_draft_talks_size a_X_draft_talks_cells v_X_draft_dues_width v_X_draft_dues_limit v_X_draft_dues_size a_X_draft_dues_cells v_X_draft_sights_width v_X_draft_sights_limit v_X_draft_sights_size a_X_draft_sights_cells v_X_draft_people_width v_X_draft_people_limit v_X_draft_people_size a_X_draft_people_cells a_X_draft_settings) H) (hD : va_D A (ws_X6_isItem cI cJ cZ cA q_X_reader q_X_text q_X_text_cells q_X_draft q_X_reader_numbers q_X_draft_talks q_X_draft_talks_cells q_X_draft_dues q_X_draft_dues_cells q_X_draft_sights q_X_draft_sights_cells q_X_draft_people q_X_draft_people_cells q_X_draft_settings u_X_text_limit u_X_draft_rule u_X_draft_stake N_X_text_cells N_X_draft_talks_cells N_X_draft_dues_cells N_X_draft_sights_cells N_X_draft_people_cells v_X_reader_place v_X_reader_token v_X_reader_first v_X_reader_number v_X_text_width v_X_text_size a_X_text_cells a_X_reader_numbers v_X_draft_talks_width v_X_draft_talks_limit v_X_draft_talks_size a_X_draft_talks_cells v_X_draft_dues_width v_X_draft_dues_limit v_X_draft_dues_size a_X_draft_dues_cells v_X_draft_sights_width v_X_draft_sights_limit v_X_draft_sights_size a_X_draft_sights_cells v_X_draft_people_width v_X_draft_people_limit v_X_draft_people_size a_X_draft_people_cells a_X_draft_settings)) (hS : va_S A s.heap H locs), k49 x1 x2 v_X_reader_place v_X_reader_token v_X_reader_first v_X_reader_number a_X_reader_numbers v_X_draft_talks_size a_X_draft_talks_cells v_X_draft_dues_size a_X_draft_dues_cells v_X_draft_sights_size a_X_draft_sights_cells v_X_draft_people_size a_X_draft_people_cells a_X_draft_settings = some o → W p l e rm_X6_isItem s m args below meth c H locs 0 0 Q (F0 m 49 ls [])) (x1 : Int32) (x2 : Int32) (t0 : Int32) (v_X_reader_place : Int32) (v_X_reader_token : Int32) (v_X_reader_first : Int32) (v_X_reader_number : Int32) (a_X_reader_numbers : Nat → Int32) (v_X_draft_talks_size : Int32) (a_X_draft_talks_cells : Nat → Int32) (v_X_draft_dues_size : Int32) (a_X_draft_dues_cells : Nat → Int32) (v_X_draft_sights_size : Int32) (a_X_draft_sights_cells : Nat → Int32) (v_X_draft_people_size : Int32) (a_X_draft_people_cells : Nat → Int32) (a_X_draft_settings : Nat → Int32) (H : Heap) (locs : List Loc) (ls : Array Slot) (hl : lv_has ls 5 [(0, .ref q_X_reader), (1, .int x1), (2, .int x2)]) (hP : va_P D vwCl (ws_X6_isItem cI cJ cZ cA q_X_reader q_X_text q_X_text_cells q_X_draft q_X_reader_numbers q_X_draft_talks q_X_draft_talks_cells q_X_draft_dues q_X_draft_dues_cells q_X_draft_sights q_X_draft_sights_cells q_X_draft_people q_X_draft_people_cells q_X_draft_settings u_X_text_limit u_X_draft_rule u_X_draft_stake N_X_text_cells N_X_draft_talks_cells N_X_draft_dues_cells N_X_draft_sights_cells N_X_draft_people_cells v_X_reader_place v_X_reader_token v_X_reader_first v_X_reader_number v_X_text_width v_X_text_size a_X_text_cells a_X_reader_numbers v_X_draft_talks_width v_X_draft_talks_limit v_X_draft_talks_size a_X_draft_talks_cells v_X_draft_dues_width v_X_draft_dues_limit v_X_draft_dues_size a_X_draft_dues_cells v_X_draft_sights_width v_X_draft_sights_limit v_X_draft_sights_size a_X_draft_sights_cells v_X_draft_people_width v_X_draft_people_limit v_X_draft_people_size a_X_draft_people_cells a_X_draft_settings) H) (hD : va_D A (ws_X6_isItem cI cJ cZ cA q_X_reader q_X_text q_X_text_cells q_X_draft q_X_reader_numbers q_X_draft_talks q_X_draft_talks_cells q_X_draft_dues q_X_draft_dues_cells q_X_draft_sights q_X_draft_sights_cells q_X_draft_people q_X_draft_people_cells q_X_draft_settings u_X_text_limit u_X_draft_rule u_X_draft_stake N_X_text_cells N_X_draft_talks_cells N_X_draft_dues_cells N_X_draft_sights_cells N_X_draft_people_cells v_X_reader_place v_X_reader_token v_X_reader_first v_X_reader_number v_X_text_width v_X_text_size a_X_text_cells a_X_reader_numbers v_X_draft_talks_width v_X_draft_talks_limit v_X_draft_talks_size a_X_draft_talks_cells v_X_draft_dues_width v_X_draft_dues_limit v_X_draft_dues_size a_X_draft_dues_cells v_X_draft_sights_width v_X_draft_sights_limit v_X_draft_sights_size a_X_draft_sights_cells v_X_draft_people_width v_X_draft_people_limit v_X_draft_people_size a_X_draft_people_cells a_X_draft_settings)) (hS : va_S A s.heap H locs), g_X6_isItem_106 N_X_text_cells N_X_draft_talks_cells N_X_draft_dues_cells N_X_draft_sights_cells N_X_draft_people_cells v_X_text_width v_X_text_size a_X_text_cells v_X_draft_talks_width v_X_draft_talks_limit v_X_draft_dues_width v_X_draft_dues_limit v_X_draft_sights_width v_X_draft_sights_limit v_X_draft_people_width v_X_draft_people_limit k49 x1 x2 t0 v_X_reader_place v_X_reader_token v_X_reader_first v_X_reader_number a_X_reader_numbers v_X_draft_talks_size a_X_draft_talks_cells v_X_draft_dues_size a_X_draft_dues_cells v_X_draft_sights_size a_X_draft_sights_cells v_X_draft_people_size a_X_draft_people_cells a_X_draft_settings = some o → W p l e rm_X6_isItem s m args below meth c H locs 0 0 Q (F0 m 106 ls [.int t0]) := by
    intro k49 hk49 x1 x2 t0 v_X_reader_place v_X_reader_token v_X_reader_first v_X_reader_number a_X_reader_numbers v_X_draft_talks_size a_X_draft_talks_cells v_X_draft_dues_size a_X_draft_dues_cells v_X_draft_sights_size a_X_draft_sights_cells v_X_draft_people_size a_X_draft_people_cells a_X_draft_settings H locs ls hl hP hD hS hg
    refine lv_istore (lv' := [(4, .int t0), (0, .ref q_X_reader), (1, .int x1), (2, .int x2)]) hx hb dX6_isItem_106 hl (by decide) rfl (fun ls hl => ?_)
    refine lv_aload_n hx hb dX6_isItem_108 rfl (lv_at hl 1 rfl) ?_
    refine zget (C := RX6) (T := TX6) (N := 7) S hK hP 0 rfl rfl 4 (Nat.le_of_ble_eq_true rfl) zf_6 zw_345 rfl dX6_isItem_109 ?_
    refine lv_iconst (v := 2) hx hb dX6_isItem_112 (by decide) ?_
    refine lv_icmp_ne (tgt := 146) hx hb dX6_isItem_113 (by decide) (fun h113 => ?_) (fun h113 => ?_)
    · have hg := zn hg h113
      refine lv_iconst (v := 0) hx hb dX6_isItem_146 (by decide) ?_
      exact hret 0 v_X_reader_place v_X_reader_token v_X_reader_first v_X_reader_number a_X_reader_numbers v_X_draft_talks_size a_X_draft_talks_cells v_X_draft_dues_size a_X_draft_dues_cells v_X_draft_sights_size a_X_draft_sights_cells v_X_draft_people_size a_X_draft_people_cells a_X_draft_settings hg (zb01 (Or.inl rfl)) _ _ _ _ hP hS dX6_isItem_147
    · have hg := zp hg h113
      refine lv_aload_n hx hb dX6_isItem_116 rfl (lv_at hl 1 rfl) ?_
      refine zget (C := RX6) (T := TX6) (N := 7) S hK hP 0 rfl rfl 1 (Nat.le_of_ble_eq_true rfl) zf_6 zw_128 rfl dX6_isItem_117 ?_
      refine lv_iload_n hx hb dX6_isItem_120 rfl (lv_at hl 2 rfl) ?_
      refine lv_iload_n hx hb dX6_isItem_121 rfl (lv_at hl 3 rfl) ?_
      refine lv_iload hx hb dX6_isItem_122 (lv_at hl 0 rfl) ?_
      refine lv_iload_n hx hb dX6_isItem_124 rfl (lv_at hl 3 rfl) ?_
      refine lv_if_le (tgt := 139) hx hb dX6_isItem_125 (by decide) (fun h125 => ?_) (fun h125 => ?_)
      · have hg := zp hg h125
        refine lv_iconst (v := 0) hx hb dX6_isItem_139 (by decide) ?_
        exact B140 k49 hk49 x1 x2 t0 x1 x2 t0 0 v_X_reader_place v_X_reader_token v_X_reader_first v_X_reader_number a_X_reader_numbers v_X_draft_talks_size a_X_draft_talks_cells v_X_draft_dues_size a_X_draft_dues_cells v_X_draft_sights_size a_X_draft_sights_cells v_X_draft_people_size a_X_draft_people_cells a_X_draft_settings _ _ _ (lv_sub hl [1, 2, 3, 0] rfl) hP hD hS hg
      · have hg := zn hg h125
        refine lv_aload_n hx hb dX6_isItem_128 rfl (lv_at hl 1 rfl) ?_
        refine zget (C := RX6) (T := TX6) (N := 7) S hK hP 0 rfl rfl 2 (Nat.le_of_ble_eq_true rfl) zf_6 zw_126 rfl dX6_isItem_129 ?_
        refine lv_iload_n hx hb dX6_isItem_132 rfl (lv_at hl 3 rfl) ?_
        refine lv_iconst (v := 1) hx hb dX6_isItem_133 (by decide) ?_
        refine lv_isub hx hb dX6_isItem_134 ?_
        obtain ⟨h13, hg⟩ := zck hg
        refine ziald hx hb hK hP 4 0 rfl rfl (j := ((x2 - 1).toNatClampNeg)) h13 rfl dX6_isItem_135 ?_
        refine lv_goto (tgt := 140) hx hb dX6_isItem_136 (by decide) ?_
        exact B140 k49 hk49 x1 x2 t0 x1 x2 t0 (a_X_reader_numbers ((x2 - 1).toNatClampNeg)) v_X_reader_place v_X_reader_token v_X_reader_first v_X_reader_number a_X_reader_numbers v_X_draft_talks_size a_X_draft_talks_cells v_X_draft_dues_size a_X_draft_dues_cells v_X_draft_sights_size a_X_draft_sights_cells v_X_draft_people_size a_X_draft_people_cells a_X_draft_settings _ _ _ (lv_sub hl [1, 2, 3, 0] rfl) hP hD hS hg
  have B90 : ∀ (k49 : Int32 → Int32 → Int32 → Int32 → Int32 → Int32 → (Nat → Int32) → Int32 → (Nat → Int32) → Int32 → (Nat → Int32) → Int32 → (Nat → Int32) → Int32 → (Nat → Int32) → (Nat → Int32) → Option (Int32 × Int32 × Int32 × Int32 × Int32 × (Nat → Int32) × Int32 × (Nat → Int32) × Int32 × (Nat → Int32) × Int32 × (Nat → Int32) × Int32 × (Nat → Int32) × (Nat → Int32))) (hk49 : ∀ (x1 : Int32) (x2 : Int32) (v_X_reader_place : Int32) (v_X_reader_token : Int32) (v_X_reader_first : Int32) (v_X_reader_number : Int32) (a_X_reader_numbers : Nat → Int32) (v_X_draft_talks_size : Int32) (a_X_draft_talks_cells : Nat → Int32) (v_X_draft_dues_size : Int32) (a_X_draft_dues_cells : Nat → Int32) (v_X_draft_sights_size : Int32) (a_X_draft_sights_cells : Nat → Int32) (v_X_draft_people_size : Int32) (a_X_draft_people_cells : Nat → Int32) (a_X_draft_settings : Nat → Int32) (H : Heap) (locs : List Loc) (ls : Array Slot) (hl : lv_has ls 5 [(0, .ref q_X_reader), (1, .int x1), (2, .int x2)]) (hP : va_P D vwCl (ws_X6_isItem cI cJ cZ cA q_X_reader q_X_text q_X_text_cells q_X_draft q_X_reader_numbers q_X_draft_talks q_X_draft_talks_cells q_X_draft_dues q_X_draft_dues_cells q_X_draft_sights q_X_draft_sights_cells q_X_draft_people q_X_draft_people_cells q_X_draft_settings u_X_text_limit u_X_draft_rule u_X_draft_stake N_X_text_cells N_X_draft_talks_cells N_X_draft_dues_cells N_X_draft_sights_cells N_X_draft_people_cells v_X_reader_place v_X_reader_token v_X_reader_first v_X_reader_number v_X_text_width v_X_text_size a_X_text_cells a_X_reader_numbers v_X_draft_talks_width v_X_draft_talks_limit v_X_draft_talks_size a_X_draft_talks_cells v_X_draft_dues_width v_X_draft_dues_limit v_X_draft_dues_size a_X_draft_dues_cells v_X_draft_sights_width v_X_draft_sights_limit v_X_draft_sights_size a_X_draft_sights_cells v_X_draft_people_width v_X_draft_people_limit v_X_draft_people_size a_X_draft_people_cells a_X_draft_settings) H) (hD : va_D A (ws_X6_isItem cI cJ cZ cA q_X_reader q_X_text q_X_text_cells q_X_draft q_X_reader_numbers q_X_draft_talks q_X_draft_talks_cells q_X_draft_dues q_X_draft_dues_cells q_X_draft_sights q_X_draft_sights_cells q_X_draft_people q_X_draft_people_cells q_X_draft_settings u_X_text_limit u_X_draft_rule u_X_draft_stake N_X_text_cells N_X_draft_talks_cells N_X_draft_dues_cells N_X_draft_sights_cells N_X_draft_people_cells v_X_reader_place v_X_reader_token v_X_reader_first v_X_reader_number v_X_text_width v_X_text_size a_X_text_cells a_X_reader_numbers v_X_draft_talks_width v_X_draft_talks_limit v_X_draft_talks_size a_X_draft_talks_cells v_X_draft_dues_width v_X_draft_dues_limit v_X_draft_dues_size a_X_draft_dues_cells v_X_draft_sights_width v_X_draft_sights_limit v_X_draft_sights_size a_X_draft_sights_cells v_X_draft_people_width v_X_draft_people_limit v_X_draft_people_size a_X_draft_people_cells a_X_draft_settings)) (hS : va_S A s.heap H locs), k49 x1 x2 v_X_reader_place v_X_reader_token v_X_reader_first v_X_reader_number a_X_reader_numbers v_X_draft_talks_size a_X_draft_talks_cells v_X_draft_dues_size a_X_draft_dues_cells v_X_draft_sights_size a_X_draft_sights_cells v_X_draft_people_size a_X_draft_people_cells a_X_draft_settings = some o → W p l e rm_X6_isItem s m args below meth c H locs 0 0 Q (F0 m 49 ls [])) (x1 : Int32) (x2 : Int32) (x3 : Int32) (v_X_reader_place : Int32) (v_X_reader_token : Int32) (v_X_reader_first : Int32) (v_X_reader_number : Int32) (a_X_reader_numbers : Nat → Int32) (v_X_draft_talks_size : Int32) (a_X_draft_talks_cells : Nat → Int32) (v_X_draft_dues_size : Int32) (a_X_draft_dues_cells : Nat → Int32) (v_X_draft_sights_size : Int32) (a_X_draft_sights_cells : Nat → Int32) (v_X_draft_people_size : Int32) (a_X_draft_people_cells : Nat → Int32) (a_X_draft_settings : Nat → Int32) (H : Heap) (locs : List Loc) (ls : Array Slot) (hl : lv_has ls 5 [(0, .ref q_X_reader), (1, .int x1), (2, .int x2), (3, .int x3)]) (hP : va_P D vwCl (ws_X6_isItem cI cJ cZ cA q_X_reader q_X_text q_X_text_cells q_X_draft q_X_reader_numbers q_X_draft_talks q_X_draft_talks_cells q_X_draft_dues q_X_draft_dues_cells q_X_draft_sights q_X_draft_sights_cells q_X_draft_people q_X_draft_people_cells q_X_draft_settings u_X_text_limit u_X_draft_rule u_X_draft_stake N_X_text_cells N_X_draft_talks_cells N_X_draft_dues_cells N_X_draft_sights_cells N_X_draft_people_cells v_X_reader_place v_X_reader_token v_X_reader_first v_X_reader_number v_X_text_width v_X_text_size a_X_text_cells a_X_reader_numbers v_X_draft_talks_width v_X_draft_talks_limit v_X_draft_talks_size a_X_draft_talks_cells v_X_draft_dues_width v_X_draft_dues_limit v_X_draft_dues_size a_X_draft_dues_cells v_X_draft_sights_width v_X_draft_sights_limit v_X_draft_sights_size a_X_draft_sights_cells v_X_draft_people_width v_X_draft_people_limit v_X_draft_people_size a_X_draft_people_cells a_X_draft_settings) H) (hD : va_D A (ws_X6_isItem cI cJ cZ cA q_X_reader q_X_text q_X_text_cells q_X_draft q_X_reader_numbers q_X_draft_talks q_X_draft_talks_cells q_X_draft_dues q_X_draft_dues_cells q_X_draft_sights q_X_draft_sights_cells q_X_draft_people q_X_draft_people_cells q_X_draft_settings u_X_text_limit u_X_draft_rule u_X_draft_stake N_X_text_cells N_X_draft_talks_cells N_X_draft_dues_cells N_X_draft_sights_cells N_X_draft_people_cells v_X_reader_place v_X_reader_token v_X_reader_first v_X_reader_number v_X_text_width v_X_text_size a_X_text_cells a_X_reader_numbers v_X_draft_talks_width v_X_draft_talks_limit v_X_draft_talks_size a_X_draft_talks_cells v_X_draft_dues_width v_X_draft_dues_limit v_X_draft_dues_size a_X_draft_dues_cells v_X_draft_sights_width v_X_draft_sights_limit v_X_draft_sights_size a_X_draft_sights_cells v_X_draft_people_width v_X_draft_people_limit v_X_draft_people_size a_X_draft_people_cells a_X_draft_settings)) (hS : va_S A s.heap H locs), g_X6_isItem_90 N_X_text_cells N_X_draft_talks_cells N_X_draft_dues_cells N_X_draft_sights_cells N_X_draft_people_cells v_X_text_width v_X_text_size a_X_text_cells v_X_draft_talks_width v_X_draft_talks_limit v_X_draft_dues_width v_X_draft_dues_limit v_X_draft_sights_width v_X_draft_sights_limit v_X_draft_people_width v_X_draft_people_limit k49 x1 x2 x3 v_X_reader_place v_X_reader_token v_X_reader_first v_X_reader_number a_X_reader_numbers v_X_draft_talks_size a_X_draft_talks_cells v_X_draft_dues_size a_X_draft_dues_cells v_X_draft_sights_size a_X_draft_sights_cells v_X_draft_people_size a_X_draft_people_cells a_X_draft_settings = some o → W p l e rm_X6_isItem s m args below meth c H locs 0 0 Q (F0 m 90 ls []) := by
    intro k49 hk49 x1 x2 x3 v_X_reader_place v_X_reader_token v_X_reader_first v_X_reader_number a_X_reader_numbers v_X_draft_talks_size a_X_draft_talks_cells v_X_draft_dues_size a_X_draft_dues_cells v_X_draft_sights_size a_X_draft_sights_cells v_X_draft_people_size a_X_draft_people_cells a_X_draft_settings H locs ls hl hP hD hS hg
    refine lv_iload_n hx hb dX6_isItem_90 rfl (lv_at hl 3 rfl) ?_
    refine lv_if_eq (tgt := 102) hx hb dX6_isItem_91 (by decide) (fun h91 => ?_) (fun h91 => ?_)
    · have hg := zp hg h91
      refine lv_aload_n hx hb dX6_isItem_102 rfl (lv_at hl 0 rfl) ?_
      refine zget (C := RX6) (T := TX6) (N := 7) S hK hP 0 rfl rfl 6 (Nat.le_of_ble_eq_true rfl) zf_6 zw_370 rfl dX6_isItem_103 ?_
      exact B106 k49 hk49 x1 x2 v_X_reader_number v_X_reader_place v_X_reader_token v_X_reader_first v_X_reader_number a_X_reader_numbers v_X_draft_talks_size a_X_draft_talks_cells v_X_draft_dues_size a_X_draft_dues_cells v_X_draft_sights_size a_X_draft_sights_cells v_X_draft_people_size a_X_draft_people_cells a_X_draft_settings _ _ _ (lv_sub hl [0, 1, 2] rfl) hP hD hS hg
    · have hg := zn hg h91
      refine lv_aload_n hx hb dX6_isItem_94 rfl (lv_at hl 0 rfl) ?_
      refine zget (C := RX6) (T := TX6) (N := 7) S hK hP 0 rfl rfl 6 (Nat.le_of_ble_eq_true rfl) zf_6 zw_370 rfl dX6_isItem_95 ?_
      refine lv_ineg hx hb dX6_isItem_98 ?_
      refine lv_goto (tgt := 106) hx hb dX6_isItem_99 (by decide) ?_
      exact B106 k49 hk49 x1 x2 (-v_X_reader_number) v_X_reader_place v_X_reader_token v_X_reader_first v_X_reader_number a_X_reader_numbers v_X_draft_talks_size a_X_draft_talks_cells v_X_draft_dues_size a_X_draft_dues_cells v_X_draft_sights_size a_X_draft_sights_cells v_X_draft_people_size a_X_draft_people_cells a_X_draft_settings _ _ _ (lv_sub hl [0, 1, 2] rfl) hP hD hS hg
  have B81 : ∀ (k49 : Int32 → Int32 → Int32 → Int32 → Int32 → Int32 → (Nat → Int32) → Int32 → (Nat → Int32) → Int32 → (Nat → Int32) → Int32 → (Nat → Int32) → Int32 → (Nat → Int32) → (Nat → Int32) → Option (Int32 × Int32 × Int32 × Int32 × Int32 × (Nat → Int32) × Int32 × (Nat → Int32) × Int32 × (Nat → Int32) × Int32 × (Nat → Int32) × Int32 × (Nat → Int32) × (Nat → Int32))) (hk49 : ∀ (x1 : Int32) (x2 : Int32) (v_X_reader_place : Int32) (v_X_reader_token : Int32) (v_X_reader_first : Int32) (v_X_reader_number : Int32) (a_X_reader_numbers : Nat → Int32) (v_X_draft_talks_size : Int32) (a_X_draft_talks_cells : Nat → Int32) (v_X_draft_dues_size : Int32) (a_X_draft_dues_cells : Nat → Int32) (v_X_draft_sights_size : Int32) (a_X_draft_sights_cells : Nat → Int32) (v_X_draft_people_size : Int32) (a_X_draft_people_cells : Nat → Int32) (a_X_draft_settings : Nat → Int32) (H : Heap) (locs : List Loc) (ls : Array Slot) (hl : lv_has ls 5 [(0, .ref q_X_reader), (1, .int x1), (2, .int x2)]) (hP : va_P D vwCl (ws_X6_isItem cI cJ cZ cA q_X_reader q_X_text q_X_text_cells q_X_draft q_X_reader_numbers q_X_draft_talks q_X_draft_talks_cells q_X_draft_dues q_X_draft_dues_cells q_X_draft_sights q_X_draft_sights_cells q_X_draft_people q_X_draft_people_cells q_X_draft_settings u_X_text_limit u_X_draft_rule u_X_draft_stake N_X_text_cells N_X_draft_talks_cells N_X_draft_dues_cells N_X_draft_sights_cells N_X_draft_people_cells v_X_reader_place v_X_reader_token v_X_reader_first v_X_reader_number v_X_text_width v_X_text_size a_X_text_cells a_X_reader_numbers v_X_draft_talks_width v_X_draft_talks_limit v_X_draft_talks_size a_X_draft_talks_cells v_X_draft_dues_width v_X_draft_dues_limit v_X_draft_dues_size a_X_draft_dues_cells v_X_draft_sights_width v_X_draft_sights_limit v_X_draft_sights_size a_X_draft_sights_cells v_X_draft_people_width v_X_draft_people_limit v_X_draft_people_size a_X_draft_people_cells a_X_draft_settings) H) (hD : va_D A (ws_X6_isItem cI cJ cZ cA q_X_reader q_X_text q_X_text_cells q_X_draft q_X_reader_numbers q_X_draft_talks q_X_draft_talks_cells q_X_draft_dues q_X_draft_dues_cells q_X_draft_sights q_X_draft_sights_cells q_X_draft_people q_X_draft_people_cells q_X_draft_settings u_X_text_limit u_X_draft_rule u_X_draft_stake N_X_text_cells N_X_draft_talks_cells N_X_draft_dues_cells N_X_draft_sights_cells N_X_draft_people_cells v_X_reader_place v_X_reader_token v_X_reader_first v_X_reader_number v_X_text_width v_X_text_size a_X_text_cells a_X_reader_numbers v_X_draft_talks_width v_X_draft_talks_limit v_X_draft_talks_size a_X_draft_talks_cells v_X_draft_dues_width v_X_draft_dues_limit v_X_draft_dues_size a_X_draft_dues_cells v_X_draft_sights_width v_X_draft_sights_limit v_X_draft_sights_size a_X_draft_sights_cells v_X_draft_people_width v_X_draft_people_limit v_X_draft_people_size a_X_draft_people_cells a_X_draft_settings)) (hS : va_S A s.heap H locs), k49 x1 x2 v_X_reader_place v_X_reader_token v_X_reader_first v_X_reader_number a_X_reader_numbers v_X_draft_talks_size a_X_draft_talks_cells v_X_draft_dues_size a_X_draft_dues_cells v_X_draft_sights_size a_X_draft_sights_cells v_X_draft_people_size a_X_draft_people_cells a_X_draft_settings = some o → W p l e rm_X6_isItem s m args below meth c H locs 0 0 Q (F0 m 49 ls [])) (x1 : Int32) (x2 : Int32) (t0 : Int32) (v_X_reader_place : Int32) (v_X_reader_token : Int32) (v_X_reader_first : Int32) (v_X_reader_number : Int32) (a_X_reader_numbers : Nat → Int32) (v_X_draft_talks_size : Int32) (a_X_draft_talks_cells : Nat → Int32) (v_X_draft_dues_size : Int32) (a_X_draft_dues_cells : Nat → Int32) (v_X_draft_sights_size : Int32) (a_X_draft_sights_cells : Nat → Int32) (v_X_draft_people_size : Int32) (a_X_draft_people_cells : Nat → Int32) (a_X_draft_settings : Nat → Int32) (H : Heap) (locs : List Loc) (ls : Array Slot) (hl : lv_has ls 5 [(0, .ref q_X_reader), (1, .int x1), (2, .int x2)]) (hP : va_P D vwCl (ws_X6_isItem cI cJ cZ cA q_X_reader q_X_text q_X_text_cells q_X_draft q_X_reader_numbers q_X_draft_talks q_X_draft_talks_cells q_X_draft_dues q_X_draft_dues_cells q_X_draft_sights q_X_draft_sights_cells q_X_draft_people q_X_draft_people_cells q_X_draft_settings u_X_text_limit u_X_draft_rule u_X_draft_stake N_X_text_cells N_X_draft_talks_cells N_X_draft_dues_cells N_X_draft_sights_cells N_X_draft_people_cells v_X_reader_place v_X_reader_token v_X_reader_first v_X_reader_number v_X_text_width v_X_text_size a_X_text_cells a_X_reader_numbers v_X_draft_talks_width v_X_draft_talks_limit v_X_draft_talks_size a_X_draft_talks_cells v_X_draft_dues_width v_X_draft_dues_limit v_X_draft_dues_size a_X_draft_dues_cells v_X_draft_sights_width v_X_draft_sights_limit v_X_draft_sights_size a_X_draft_sights_cells v_X_draft_people_width v_X_draft_people_limit v_X_draft_people_size a_X_draft_people_cells a_X_draft_settings) H) (hD : va_D A (ws_X6_isItem cI cJ cZ cA q_X_reader q_X_text q_X_text_cells q_X_draft q_X_reader_numbers q_X_draft_talks q_X_draft_talks_cells q_X_draft_dues q_X_draft_dues_cells q_X_draft_sights q_X_draft_sights_cells q_X_draft_people q_X_draft_people_cells q_X_draft_settings u_X_text_limit u_X_draft_rule u_X_draft_stake N_X_text_cells N_X_draft_talks_cells N_X_draft_dues_cells N_X_draft_sights_cells N_X_draft_people_cells v_X_reader_place v_X_reader_token v_X_reader_first v_X_reader_number v_X_text_width v_X_text_size a_X_text_cells a_X_reader_numbers v_X_draft_talks_width v_X_draft_talks_limit v_X_draft_talks_size a_X_draft_talks_cells v_X_draft_dues_width v_X_draft_dues_limit v_X_draft_dues_size a_X_draft_dues_cells v_X_draft_sights_width v_X_draft_sights_limit v_X_draft_sights_size a_X_draft_sights_cells v_X_draft_people_width v_X_draft_people_limit v_X_draft_people_size a_X_draft_people_cells a_X_draft_settings)) (hS : va_S A s.heap H locs), g_X6_isItem_81 N_X_text_cells N_X_draft_talks_cells N_X_draft_dues_cells N_X_draft_sights_cells N_X_draft_people_cells v_X_text_width v_X_text_size a_X_text_cells v_X_draft_talks_width v_X_draft_talks_limit v_X_draft_dues_width v_X_draft_dues_limit v_X_draft_sights_width v_X_draft_sights_limit v_X_draft_people_width v_X_draft_people_limit k49 x1 x2 t0 v_X_reader_place v_X_reader_token v_X_reader_first v_X_reader_number a_X_reader_numbers v_X_draft_talks_size a_X_draft_talks_cells v_X_draft_dues_size a_X_draft_dues_cells v_X_draft_sights_size a_X_draft_sights_cells v_X_draft_people_size a_X_draft_people_cells a_X_draft_settings = some o → W p l e rm_X6_isItem s m args below meth c H locs 0 0 Q (F0 m 81 ls [.int t0]) := by
    intro k49 hk49 x1 x2 t0 v_X_reader_place v_X_reader_token v_X_reader_first v_X_reader_number a_X_reader_numbers v_X_draft_talks_size a_X_draft_talks_cells v_X_draft_dues_size a_X_draft_dues_cells v_X_draft_sights_size a_X_draft_sights_cells v_X_draft_people_size a_X_draft_people_cells a_X_draft_settings H locs ls hl hP hD hS hg
    refine lv_istore_n (lv' := [(3, .int t0), (0, .ref q_X_reader), (1, .int x1), (2, .int x2)]) hx hb dX6_isItem_81 rfl hl (by decide) rfl (fun ls hl => ?_)
    refine lv_iload_n hx hb dX6_isItem_82 rfl (lv_at hl 0 rfl) ?_
    refine lv_if_eq (tgt := 90) hx hb dX6_isItem_83 (by decide) (fun h83 => ?_) (fun h83 => ?_)
    · have hg := zp hg h83
      exact B90 k49 hk49 x1 x2 t0 v_X_reader_place v_X_reader_token v_X_reader_first v_X_reader_number a_X_reader_numbers v_X_draft_talks_size a_X_draft_talks_cells v_X_draft_dues_size a_X_draft_dues_cells v_X_draft_sights_size a_X_draft_sights_cells v_X_draft_people_size a_X_draft_people_cells a_X_draft_settings _ _ _ (lv_sub hl [1, 2, 3, 0] rfl) hP hD hS hg
    · have hg := zn hg h83
      refine lv_aload_n hx hb dX6_isItem_86 rfl (lv_at hl 1 rfl) ?_
      obtain ⟨v14, hc15, hg⟩ := zbd hg
      refine zcallV (rest := []) S (c_X6_advance l D cI cJ cZ cA ga q_X_reader q_X_text q_X_text_cells (.ref q_X_draft) (.ref q_X_reader_numbers) u_X_text_limit N_X_text_cells v_X_reader_place v_X_reader_token v_X_reader_first v_X_reader_number v_X_text_width v_X_text_size a_X_text_cells v14 hc15) (zgV zw_347 zw_348 zw_349 zw_41 zw_350) rfl hd_X6_advance ⟨rfl, rfl⟩ ⟨Nat.le_of_ble_eq_true rfl, Nat.le_of_ble_eq_true rfl⟩ 0 6 rfl rfl rfl hl.1 rfl (Nat.le_of_ble_eq_true rfl) dX6_isItem_87 hP hD hS hA hK hG (isC := [0, 1, 2]) rfl (by decide +kernel) rfl ⟨Nat.zero_le _, Nat.zero_le _⟩ (pl := [some 0, some 1, some 2, none, none, none, none, none, none, none, none, none, none, none]) (nw := 14) rfl (by decide +kernel) (w2 := (ws_X6_isItem cI cJ cZ cA q_X_reader q_X_text q_X_text_cells q_X_draft q_X_reader_numbers q_X_draft_talks q_X_draft_talks_cells q_X_draft_dues q_X_draft_dues_cells q_X_draft_sights q_X_draft_sights_cells q_X_draft_people q_X_draft_people_cells q_X_draft_settings u_X_text_limit u_X_draft_rule u_X_draft_stake N_X_text_cells N_X_draft_talks_cells N_X_draft_dues_cells N_X_draft_sights_cells N_X_draft_people_cells v14.1 v14.2.1 v14.2.2.1 v14.2.2.2 v_X_text_width v_X_text_size a_X_text_cells a_X_reader_numbers v_X_draft_talks_width v_X_draft_talks_limit v_X_draft_talks_size a_X_draft_talks_cells v_X_draft_dues_width v_X_draft_dues_limit v_X_draft_dues_size a_X_draft_dues_cells v_X_draft_sights_width v_X_draft_sights_limit v_X_draft_sights_size a_X_draft_sights_cells v_X_draft_people_width v_X_draft_people_limit v_X_draft_people_size a_X_draft_people_cells a_X_draft_settings)) rfl (st1 := []) rfl (fun H locs hP hD hS => ?_)
      exact B90 k49 hk49 x1 x2 t0 v14.1 v14.2.1 v14.2.2.1 v14.2.2.2 a_X_reader_numbers v_X_draft_talks_size a_X_draft_talks_cells v_X_draft_dues_size a_X_draft_dues_cells v_X_draft_sights_size a_X_draft_sights_cells v_X_draft_people_size a_X_draft_people_cells a_X_draft_settings _ _ _ (lv_sub hl [1, 2, 3, 0] rfl) hP hD hS hg
  have B80 : ∀ (k49 : Int32 → Int32 → Int32 → Int32 → Int32 → Int32 → (Nat → Int32) → Int32 → (Nat → Int32) → Int32 → (Nat → Int32) → Int32 → (Nat → Int32) → Int32 → (Nat → Int32) → (Nat → Int32) → Option (Int32 × Int32 × Int32 × Int32 × Int32 × (Nat → Int32) × Int32 × (Nat → Int32) × Int32 × (Nat → Int32) × Int32 × (Nat → Int32) × Int32 × (Nat → Int32) × (Nat → Int32))) (hk49 : ∀ (x1 : Int32) (x2 : Int32) (v_X_reader_place : Int32) (v_X_reader_token : Int32) (v_X_reader_first : Int32) (v_X_reader_number : Int32) (a_X_reader_numbers : Nat → Int32) (v_X_draft_talks_size : Int32) (a_X_draft_talks_cells : Nat → Int32) (v_X_draft_dues_size : Int32) (a_X_draft_dues_cells : Nat → Int32) (v_X_draft_sights_size : Int32) (a_X_draft_sights_cells : Nat → Int32) (v_X_draft_people_size : Int32) (a_X_draft_people_cells : Nat → Int32) (a_X_draft_settings : Nat → Int32) (H : Heap) (locs : List Loc) (ls : Array Slot) (hl : lv_has ls 5 [(0, .ref q_X_reader), (1, .int x1), (2, .int x2)]) (hP : va_P D vwCl (ws_X6_isItem cI cJ cZ cA q_X_reader q_X_text q_X_text_cells q_X_draft q_X_reader_numbers q_X_draft_talks q_X_draft_talks_cells q_X_draft_dues q_X_draft_dues_cells q_X_draft_sights q_X_draft_sights_cells q_X_draft_people q_X_draft_people_cells q_X_draft_settings u_X_text_limit u_X_draft_rule u_X_draft_stake N_X_text_cells N_X_draft_talks_cells N_X_draft_dues_cells N_X_draft_sights_cells N_X_draft_people_cells v_X_reader_place v_X_reader_token v_X_reader_first v_X_reader_number v_X_text_width v_X_text_size a_X_text_cells a_X_reader_numbers v_X_draft_talks_width v_X_draft_talks_limit v_X_draft_talks_size a_X_draft_talks_cells v_X_draft_dues_width v_X_draft_dues_limit v_X_draft_dues_size a_X_draft_dues_cells v_X_draft_sights_width v_X_draft_sights_limit v_X_draft_sights_size a_X_draft_sights_cells v_X_draft_people_width v_X_draft_people_limit v_X_draft_people_size a_X_draft_people_cells a_X_draft_settings) H) (hD : va_D A (ws_X6_isItem cI cJ cZ cA q_X_reader q_X_text q_X_text_cells q_X_draft q_X_reader_numbers q_X_draft_talks q_X_draft_talks_cells q_X_draft_dues q_X_draft_dues_cells q_X_draft_sights q_X_draft_sights_cells q_X_draft_people q_X_draft_people_cells q_X_draft_settings u_X_text_limit u_X_draft_rule u_X_draft_stake N_X_text_cells N_X_draft_talks_cells N_X_draft_dues_cells N_X_draft_sights_cells N_X_draft_people_cells v_X_reader_place v_X_reader_token v_X_reader_first v_X_reader_number v_X_text_width v_X_text_size a_X_text_cells a_X_reader_numbers v_X_draft_talks_width v_X_draft_talks_limit v_X_draft_talks_size a_X_draft_talks_cells v_X_draft_dues_width v_X_draft_dues_limit v_X_draft_dues_size a_X_draft_dues_cells v_X_draft_sights_width v_X_draft_sights_limit v_X_draft_sights_size a_X_draft_sights_cells v_X_draft_people_width v_X_draft_people_limit v_X_draft_people_size a_X_draft_people_cells a_X_draft_settings)) (hS : va_S A s.heap H locs), k49 x1 x2 v_X_reader_place v_X_reader_token v_X_reader_first v_X_reader_number a_X_reader_numbers v_X_draft_talks_size a_X_draft_talks_cells v_X_draft_dues_size a_X_draft_dues_cells v_X_draft_sights_size a_X_draft_sights_cells v_X_draft_people_size a_X_draft_people_cells a_X_draft_settings = some o → W p l e rm_X6_isItem s m args below meth c H locs 0 0 Q (F0 m 49 ls [])) (x1 : Int32) (x2 : Int32) (v_X_reader_place : Int32) (v_X_reader_token : Int32) (v_X_reader_first : Int32) (v_X_reader_number : Int32) (a_X_reader_numbers : Nat → Int32) (v_X_draft_talks_size : Int32) (a_X_draft_talks_cells : Nat → Int32) (v_X_draft_dues_size : Int32) (a_X_draft_dues_cells : Nat → Int32) (v_X_draft_sights_size : Int32) (a_X_draft_sights_cells : Nat → Int32) (v_X_draft_people_size : Int32) (a_X_draft_people_cells : Nat → Int32) (a_X_draft_settings : Nat → Int32) (H : Heap) (locs : List Loc) (ls : Array Slot) (hl : lv_has ls 5 [(0, .ref q_X_reader), (1, .int x1), (2, .int x2)]) (hP : va_P D vwCl (ws_X6_isItem cI cJ cZ cA q_X_reader q_X_text q_X_text_cells q_X_draft q_X_reader_numbers q_X_draft_talks q_X_draft_talks_cells q_X_draft_dues q_X_draft_dues_cells q_X_draft_sights q_X_draft_sights_cells q_X_draft_people q_X_draft_people_cells q_X_draft_settings u_X_text_limit u_X_draft_rule u_X_draft_stake N_X_text_cells N_X_draft_talks_cells N_X_draft_dues_cells N_X_draft_sights_cells N_X_draft_people_cells v_X_reader_place v_X_reader_token v_X_reader_first v_X_reader_number v_X_text_width v_X_text_size a_X_text_cells a_X_reader_numbers v_X_draft_talks_width v_X_draft_talks_limit v_X_draft_talks_size a_X_draft_talks_cells v_X_draft_dues_width v_X_draft_dues_limit v_X_draft_dues_size a_X_draft_dues_cells v_X_draft_sights_width v_X_draft_sights_limit v_X_draft_sights_size a_X_draft_sights_cells v_X_draft_people_width v_X_draft_people_limit v_X_draft_people_size a_X_draft_people_cells a_X_draft_settings) H) (hD : va_D A (ws_X6_isItem cI cJ cZ cA q_X_reader q_X_text q_X_text_cells q_X_draft q_X_reader_numbers q_X_draft_talks q_X_draft_talks_cells q_X_draft_dues q_X_draft_dues_cells q_X_draft_sights q_X_draft_sights_cells q_X_draft_people q_X_draft_people_cells q_X_draft_settings u_X_text_limit u_X_draft_rule u_X_draft_stake N_X_text_cells N_X_draft_talks_cells N_X_draft_dues_cells N_X_draft_sights_cells N_X_draft_people_cells v_X_reader_place v_X_reader_token v_X_reader_first v_X_reader_number v_X_text_width v_X_text_size a_X_text_cells a_X_reader_numbers v_X_draft_talks_width v_X_draft_talks_limit v_X_draft_talks_size a_X_draft_talks_cells v_X_draft_dues_width v_X_draft_dues_limit v_X_draft_dues_size a_X_draft_dues_cells v_X_draft_sights_width v_X_draft_sights_limit v_X_draft_sights_size a_X_draft_sights_cells v_X_draft_people_width v_X_draft_people_limit v_X_draft_people_size a_X_draft_people_cells a_X_draft_settings)) (hS : va_S A s.heap H locs), g_X6_isItem_80 N_X_text_cells N_X_draft_talks_cells N_X_draft_dues_cells N_X_draft_sights_cells N_X_draft_people_cells v_X_text_width v_X_text_size a_X_text_cells v_X_draft_talks_width v_X_draft_talks_limit v_X_draft_dues_width v_X_draft_dues_limit v_X_draft_sights_width v_X_draft_sights_limit v_X_draft_people_width v_X_draft_people_limit k49 x1 x2 v_X_reader_place v_X_reader_token v_X_reader_first v_X_reader_number a_X_reader_numbers v_X_draft_talks_size a_X_draft_talks_cells v_X_draft_dues_size a_X_draft_dues_cells v_X_draft_sights_size a_X_draft_sights_cells v_X_draft_people_size a_X_draft_people_cells a_X_draft_settings = some o → W p l e rm_X6_isItem s m args below meth c H locs 0 0 Q (F0 m 80 ls []) := by
    intro k49 hk49 x1 x2 v_X_reader_place v_X_reader_token v_X_reader_first v_X_reader_number a_X_reader_numbers v_X_draft_talks_size a_X_draft_talks_cells v_X_draft_dues_size a_X_draft_dues_cells v_X_draft_sights_size a_X_draft_sights_cells v_X_draft_people_size a_X_draft_people_cells a_X_draft_settings H locs ls hl hP hD hS hg
    refine lv_iconst (v := 0) hx hb dX6_isItem_80 (by decide) ?_
    exact B81 k49 hk49 x1 x2 0 v_X_reader_place v_X_reader_token v_X_reader_first v_X_reader_number a_X_reader_numbers v_X_draft_talks_size a_X_draft_talks_cells v_X_draft_dues_size a_X_draft_dues_cells v_X_draft_sights_size a_X_draft_sights_cells v_X_draft_people_size a_X_draft_people_cells a_X_draft_settings _ _ _ hl hP hD hS hg
  have B49 : ∀  (n : Nat) (x1 : Int32) (x2 : Int32) (v_X_reader_place : Int32) (v_X_reader_token : Int32) (v_X_reader_first : Int32) (v_X_reader_number : Int32) (a_X_reader_numbers : Nat → Int32) (v_X_draft_talks_size : Int32) (a_X_draft_talks_cells : Nat → Int32) (v_X_draft_dues_size : Int32) (a_X_draft_dues_cells : Nat → Int32) (v_X_draft_sights_size : Int32) (a_X_draft_sights_cells : Nat → Int32) (v_X_draft_people_size : Int32) (a_X_draft_people_cells : Nat → Int32) (a_X_draft_settings : Nat → Int32) (H : Heap) (locs : List Loc) (ls : Array Slot) (hl : lv_has ls 5 [(0, .ref q_X_reader), (1, .int x1), (2, .int x2)]) (hP : va_P D vwCl (ws_X6_isItem cI cJ cZ cA q_X_reader q_X_text q_X_text_cells q_X_draft q_X_reader_numbers q_X_draft_talks q_X_draft_talks_cells q_X_draft_dues q_X_draft_dues_cells q_X_draft_sights q_X_draft_sights_cells q_X_draft_people q_X_draft_people_cells q_X_draft_settings u_X_text_limit u_X_draft_rule u_X_draft_stake N_X_text_cells N_X_draft_talks_cells N_X_draft_dues_cells N_X_draft_sights_cells N_X_draft_people_cells v_X_reader_place v_X_reader_token v_X_reader_first v_X_reader_number v_X_text_width v_X_text_size a_X_text_cells a_X_reader_numbers v_X_draft_talks_width v_X_draft_talks_limit v_X_draft_talks_size a_X_draft_talks_cells v_X_draft_dues_width v_X_draft_dues_limit v_X_draft_dues_size a_X_draft_dues_cells v_X_draft_sights_width v_X_draft_sights_limit v_X_draft_sights_size a_X_draft_sights_cells v_X_draft_people_width v_X_draft_people_limit v_X_draft_people_size a_X_draft_people_cells a_X_draft_settings) H) (hD : va_D A (ws_X6_isItem cI cJ cZ cA q_X_reader q_X_text q_X_text_cells q_X_draft q_X_reader_numbers q_X_draft_talks q_X_draft_talks_cells q_X_draft_dues q_X_draft_dues_cells q_X_draft_sights q_X_draft_sights_cells q_X_draft_people q_X_draft_people_cells q_X_draft_settings u_X_text_limit u_X_draft_rule u_X_draft_stake N_X_text_cells N_X_draft_talks_cells N_X_draft_dues_cells N_X_draft_sights_cells N_X_draft_people_cells v_X_reader_place v_X_reader_token v_X_reader_first v_X_reader_number v_X_text_width v_X_text_size a_X_text_cells a_X_reader_numbers v_X_draft_talks_width v_X_draft_talks_limit v_X_draft_talks_size a_X_draft_talks_cells v_X_draft_dues_width v_X_draft_dues_limit v_X_draft_dues_size a_X_draft_dues_cells v_X_draft_sights_width v_X_draft_sights_limit v_X_draft_sights_size a_X_draft_sights_cells v_X_draft_people_width v_X_draft_people_limit v_X_draft_people_size a_X_draft_people_cells a_X_draft_settings)) (hS : va_S A s.heap H locs), g_X6_isItem_49 N_X_text_cells N_X_draft_talks_cells N_X_draft_dues_cells N_X_draft_sights_cells N_X_draft_people_cells v_X_text_width v_X_text_size a_X_text_cells v_X_draft_talks_width v_X_draft_talks_limit v_X_draft_dues_width v_X_draft_dues_limit v_X_draft_sights_width v_X_draft_sights_limit v_X_draft_people_width v_X_draft_people_limit n x1 x2 v_X_reader_place v_X_reader_token v_X_reader_first v_X_reader_number a_X_reader_numbers v_X_draft_talks_size a_X_draft_talks_cells v_X_draft_dues_size a_X_draft_dues_cells v_X_draft_sights_size a_X_draft_sights_cells v_X_draft_people_size a_X_draft_people_cells a_X_draft_settings = some o → W p l e rm_X6_isItem s m args below meth c H locs 0 0 Q (F0 m 49 ls []) := by
    intro  n
    induction n with
    | zero => intro x1 x2 v_X_reader_place v_X_reader_token v_X_reader_first v_X_reader_number a_X_reader_numbers v_X_draft_talks_size a_X_draft_talks_cells v_X_draft_dues_size a_X_draft_dues_cells v_X_draft_sights_size a_X_draft_sights_cells v_X_draft_people_size a_X_draft_people_cells a_X_draft_settings H locs ls hl hP hD hS hg; exact nomatch (show (none : Option (Int32 × Int32 × Int32 × Int32 × Int32 × (Nat → Int32) × Int32 × (Nat → Int32) × Int32 × (Nat → Int32) × Int32 × (Nat → Int32) × Int32 × (Nat → Int32) × (Nat → Int32))) = some o from hg)
    | succ n ih =>
      intro x1 x2 v_X_reader_place v_X_reader_token v_X_reader_first v_X_reader_number a_X_reader_numbers v_X_draft_talks_size a_X_draft_talks_cells v_X_draft_dues_size a_X_draft_dues_cells v_X_draft_sights_size a_X_draft_sights_cells v_X_draft_people_size a_X_draft_people_cells a_X_draft_settings H locs ls hl hP hD hS hg
      have hg : g_X6_isItem_49b N_X_text_cells N_X_draft_talks_cells N_X_draft_dues_cells N_X_draft_sights_cells N_X_draft_people_cells v_X_text_width v_X_text_size a_X_text_cells v_X_draft_talks_width v_X_draft_talks_limit v_X_draft_dues_width v_X_draft_dues_limit v_X_draft_sights_width v_X_draft_sights_limit v_X_draft_people_width v_X_draft_people_limit (g_X6_isItem_49 N_X_text_cells N_X_draft_talks_cells N_X_draft_dues_cells N_X_draft_sights_cells N_X_draft_people_cells v_X_text_width v_X_text_size a_X_text_cells v_X_draft_talks_width v_X_draft_talks_limit v_X_draft_dues_width v_X_draft_dues_limit v_X_draft_sights_width v_X_draft_sights_limit v_X_draft_people_width v_X_draft_people_limit n) x1 x2 v_X_reader_place v_X_reader_token v_X_reader_first v_X_reader_number a_X_reader_numbers v_X_draft_talks_size a_X_draft_talks_cells v_X_draft_dues_size a_X_draft_dues_cells v_X_draft_sights_size a_X_draft_sights_cells v_X_draft_people_size a_X_draft_people_cells a_X_draft_settings = some o := hg
      refine lv_iload_n hx hb dX6_isItem_49 rfl (lv_at hl 2 rfl) ?_
      refine va_getsN hx hb hG.2.1.1 hS S.2.2.2.1 (va_Nw.use rfl hG.1.1.1) (fun _ h9 => h9) dX6_isItem_50 ?_
      refine lv_iload_n hx hb dX6_isItem_53 rfl (lv_at hl 1 rfl) ?_
      obtain ⟨h3, hg⟩ := zck hg
      refine zti hx hb hG.2.1.2.1 hS (j := (x1.toNatClampNeg)) h3 rfl dX6_isItem_54 ?_
      refine lv_icmp_ge (tgt := 166) hx hb dX6_isItem_55 (by decide) (fun h55 => ?_) (fun h55 => ?_)
      · have hg := zp hg h55
        refine lv_aload_n hx hb dX6_isItem_166 rfl (lv_at hl 0 rfl) ?_
        refine zget (C := RX6) (T := TX6) (N := 7) S hK hP 0 rfl rfl 4 (Nat.le_of_ble_eq_true rfl) zf_6 zw_345 rfl dX6_isItem_167 ?_
        refine lv_iconst (v := 4) hx hb dX6_isItem_170 (by decide) ?_
        refine lv_icmp_eq (tgt := 176) hx hb dX6_isItem_171 (by decide) (fun h171 => ?_) (fun h171 => ?_)
        · have hg := zp hg h171
          refine lv_aload_n hx hb dX6_isItem_176 rfl (lv_at hl 0 rfl) ?_
          obtain ⟨v4, hc5, hg⟩ := zbd hg
          refine zcallV (rest := []) S (c_X6_advance l D cI cJ cZ cA ga q_X_reader q_X_text q_X_text_cells (.ref q_X_draft) (.ref q_X_reader_numbers) u_X_text_limit N_X_text_cells v_X_reader_place v_X_reader_token v_X_reader_first v_X_reader_number v_X_text_width v_X_text_size a_X_text_cells v4 hc5) (zgV zw_347 zw_348 zw_349 zw_41 zw_350) rfl hd_X6_advance ⟨rfl, rfl⟩ ⟨Nat.le_of_ble_eq_true rfl, Nat.le_of_ble_eq_true rfl⟩ 0 6 rfl rfl rfl hl.1 rfl (Nat.le_of_ble_eq_true rfl) dX6_isItem_177 hP hD hS hA hK hG (isC := [0, 1, 2]) rfl (by decide +kernel) rfl ⟨Nat.zero_le _, Nat.zero_le _⟩ (pl := [some 0, some 1, some 2, none, none, none, none, none, none, none, none, none, none, none]) (nw := 14) rfl (by decide +kernel) (w2 := (ws_X6_isItem cI cJ cZ cA q_X_reader q_X_text q_X_text_cells q_X_draft q_X_reader_numbers q_X_draft_talks q_X_draft_talks_cells q_X_draft_dues q_X_draft_dues_cells q_X_draft_sights q_X_draft_sights_cells q_X_draft_people q_X_draft_people_cells q_X_draft_settings u_X_text_limit u_X_draft_rule u_X_draft_stake N_X_text_cells N_X_draft_talks_cells N_X_draft_dues_cells N_X_draft_sights_cells N_X_draft_people_cells v4.1 v4.2.1 v4.2.2.1 v4.2.2.2 v_X_text_width v_X_text_size a_X_text_cells a_X_reader_numbers v_X_draft_talks_width v_X_draft_talks_limit v_X_draft_talks_size a_X_draft_talks_cells v_X_draft_dues_width v_X_draft_dues_limit v_X_draft_dues_size a_X_draft_dues_cells v_X_draft_sights_width v_X_draft_sights_limit v_X_draft_sights_size a_X_draft_sights_cells v_X_draft_people_width v_X_draft_people_limit v_X_draft_people_size a_X_draft_people_cells a_X_draft_settings)) rfl (st1 := []) rfl (fun H locs hP hD hS => ?_)
          refine lv_aload_n hx hb dX6_isItem_180 rfl (lv_at hl 0 rfl) ?_
          refine lv_iload_n hx hb dX6_isItem_181 rfl (lv_at hl 1 rfl) ?_
          obtain ⟨v6, hc7, hg⟩ := zbd hg
          refine zcallV (rest := []) S (c_X6_keep l D cI cJ cZ cA ga q_X_reader q_X_draft q_X_draft_talks q_X_draft_dues q_X_draft_sights q_X_draft_people q_X_reader_numbers q_X_draft_talks_cells q_X_draft_dues_cells q_X_draft_sights_cells q_X_draft_people_cells q_X_draft_settings (.ref q_X_text) (.int v4.1) (.int v4.2.1) (.int v4.2.2.1) (.int v4.2.2.2) u_X_draft_rule u_X_draft_stake N_X_draft_talks_cells N_X_draft_dues_cells N_X_draft_sights_cells N_X_draft_people_cells a_X_reader_numbers v_X_draft_talks_width v_X_draft_talks_limit v_X_draft_talks_size a_X_draft_talks_cells v_X_draft_dues_width v_X_draft_dues_limit v_X_draft_dues_size a_X_draft_dues_cells v_X_draft_sights_width v_X_draft_sights_limit v_X_draft_sights_size a_X_draft_sights_cells v_X_draft_people_width v_X_draft_people_limit v_X_draft_people_size a_X_draft_people_cells a_X_draft_settings x1 v6 hc7) (zgV zw_439 zw_440 zw_441 zw_41 zw_442) rfl hd_X6_keep ⟨rfl, rfl⟩ ⟨Nat.le_of_ble_eq_true rfl, Nat.le_of_ble_eq_true rfl⟩ 0 6 rfl rfl rfl hl.1 rfl (Nat.le_of_ble_eq_true rfl) dX6_isItem_182 hP hD hS hA hK hG (isC := [0, 3, 4, 5, 6, 7, 8, 9, 10, 11, 12, 13]) rfl (by decide +kernel) rfl ⟨Nat.zero_le _, Nat.zero_le _⟩ (pl := [some 0, none, none, some 1, some 2, some 3, some 4, some 5, some 6, some 7, some 8, some 9, some 10, some 11]) (nw := 14) rfl (by decide +kernel) (w2 := (ws_X6_isItem cI cJ cZ cA q_X_reader q_X_text q_X_text_cells q_X_draft q_X_reader_numbers q_X_draft_talks q_X_draft_talks_cells q_X_draft_dues q_X_draft_dues_cells q_X_draft_sights q_X_draft_sights_cells q_X_draft_people q_X_draft_people_cells q_X_draft_settings u_X_text_limit u_X_draft_rule u_X_draft_stake N_X_text_cells N_X_draft_talks_cells N_X_draft_dues_cells N_X_draft_sights_cells N_X_draft_people_cells v4.1 v4.2.1 v4.2.2.1 v4.2.2.2 v_X_text_width v_X_text_size a_X_text_cells a_X_reader_numbers v_X_draft_talks_width v_X_draft_talks_limit v6.1 v6.2.1 v_X_draft_dues_width v_X_draft_dues_limit v6.2.2.1 v6.2.2.2.1 v_X_draft_sights_width v_X_draft_sights_limit v6.2.2.2.2.1 v6.2.2.2.2.2.1 v_X_draft_people_width v_X_draft_people_limit v6.2.2.2.2.2.2.1 v6.2.2.2.2.2.2.2.1 v6.2.2.2.2.2.2.2.2)) rfl (st1 := []) rfl (fun H locs hP hD hS => ?_)
          refine lv_iconst (v := 1) hx hb dX6_isItem_185 (by decide) ?_
          exact hret 1 v4.1 v4.2.1 v4.2.2.1 v4.2.2.2 a_X_reader_numbers v6.1 v6.2.1 v6.2.2.1 v6.2.2.2.1 v6.2.2.2.2.1 v6.2.2.2.2.2.1 v6.2.2.2.2.2.2.1 v6.2.2.2.2.2.2.2.1 v6.2.2.2.2.2.2.2.2 hg (zb01 (Or.inr rfl)) _ _ _ _ hP hS dX6_isItem_186
        · have hg := zn hg h171
          refine lv_iconst (v := 0) hx hb dX6_isItem_174 (by decide) ?_
          exact hret 0 v_X_reader_place v_X_reader_token v_X_reader_first v_X_reader_number a_X_reader_numbers v_X_draft_talks_size a_X_draft_talks_cells v_X_draft_dues_size a_X_draft_dues_cells v_X_draft_sights_size a_X_draft_sights_cells v_X_draft_people_size a_X_draft_people_cells a_X_draft_settings hg (zb01 (Or.inl rfl)) _ _ _ _ hP hS dX6_isItem_175
      · have hg := zn hg h55
        refine lv_iload_n hx hb dX6_isItem_58 rfl (lv_at hl 1 rfl) ?_
        refine lv_iconst (v := 5) hx hb dX6_isItem_59 (by decide) ?_
        refine lv_icmp_ne (tgt := 80) hx hb dX6_isItem_60 (by decide) (fun h60 => ?_) (fun h60 => ?_)
        · have hg := zn hg h60
          exact B80 (g_X6_isItem_49 N_X_text_cells N_X_draft_talks_cells N_X_draft_dues_cells N_X_draft_sights_cells N_X_draft_people_cells v_X_text_width v_X_text_size a_X_text_cells v_X_draft_talks_width v_X_draft_talks_limit v_X_draft_dues_width v_X_draft_dues_limit v_X_draft_sights_width v_X_draft_sights_limit v_X_draft_people_width v_X_draft_people_limit n) ih x1 x2 v_X_reader_place v_X_reader_token v_X_reader_first v_X_reader_number a_X_reader_numbers v_X_draft_talks_size a_X_draft_talks_cells v_X_draft_dues_size a_X_draft_dues_cells v_X_draft_sights_size a_X_draft_sights_cells v_X_draft_people_size a_X_draft_people_cells a_X_draft_settings _ _ _ hl hP hD hS hg
        · have hg := zp hg h60
          refine lv_iload_n hx hb dX6_isItem_63 rfl (lv_at hl 2 rfl) ?_
          refine lv_iconst (v := 2) hx hb dX6_isItem_64 (by decide) ?_
          refine lv_icmp_ne (tgt := 80) hx hb dX6_isItem_65 (by decide) (fun h65 => ?_) (fun h65 => ?_)
          · have hg := zn hg h65
            exact B80 (g_X6_isItem_49 N_X_text_cells N_X_draft_talks_cells N_X_draft_dues_cells N_X_draft_sights_cells N_X_draft_people_cells v_X_text_width v_X_text_size a_X_text_cells v_X_draft_talks_width v_X_draft_talks_limit v_X_draft_dues_width v_X_draft_dues_limit v_X_draft_sights_width v_X_draft_sights_limit v_X_draft_people_width v_X_draft_people_limit n) ih x1 x2 v_X_reader_place v_X_reader_token v_X_reader_first v_X_reader_number a_X_reader_numbers v_X_draft_talks_size a_X_draft_talks_cells v_X_draft_dues_size a_X_draft_dues_cells v_X_draft_sights_size a_X_draft_sights_cells v_X_draft_people_size a_X_draft_people_cells a_X_draft_settings _ _ _ hl hP hD hS hg
          · have hg := zp hg h65
            refine lv_aload_n hx hb dX6_isItem_68 rfl (lv_at hl 0 rfl) ?_
            refine zget (C := RX6) (T := TX6) (N := 7) S hK hP 0 rfl rfl 4 (Nat.le_of_ble_eq_true rfl) zf_6 zw_345 rfl dX6_isItem_69 ?_
            refine lv_iconst (v := 3) hx hb dX6_isItem_72 (by decide) ?_
            refine lv_icmp_ne (tgt := 80) hx hb dX6_isItem_73 (by decide) (fun h73 => ?_) (fun h73 => ?_)
            · have hg := zn hg h73
              exact B80 (g_X6_isItem_49 N_X_text_cells N_X_draft_talks_cells N_X_draft_dues_cells N_X_draft_sights_cells N_X_draft_people_cells v_X_text_width v_X_text_size a_X_text_cells v_X_draft_talks_width v_X_draft_talks_limit v_X_draft_dues_width v_X_draft_dues_limit v_X_draft_sights_width v_X_draft_sights_limit v_X_draft_people_width v_X_draft_people_limit n) ih x1 x2 v_X_reader_place v_X_reader_token v_X_reader_first v_X_reader_number a_X_reader_numbers v_X_draft_talks_size a_X_draft_talks_cells v_X_draft_dues_size a_X_draft_dues_cells v_X_draft_sights_size a_X_draft_sights_cells v_X_draft_people_size a_X_draft_people_cells a_X_draft_settings _ _ _ hl hP hD hS hg
            · have hg := zp hg h73
              refine lv_iconst (v := 1) hx hb dX6_isItem_76 (by decide) ?_
              refine lv_goto (tgt := 81) hx hb dX6_isItem_77 (by decide) ?_
              exact B81 (g_X6_isItem_49 N_X_text_cells N_X_draft_talks_cells N_X_draft_dues_cells N_X_draft_sights_cells N_X_draft_people_cells v_X_text_width v_X_text_size a_X_text_cells v_X_draft_talks_width v_X_draft_talks_limit v_X_draft_dues_width v_X_draft_dues_limit v_X_draft_sights_width v_X_draft_sights_limit v_X_draft_people_width v_X_draft_people_limit n) ih x1 x2 1 v_X_reader_place v_X_reader_token v_X_reader_first v_X_reader_number a_X_reader_numbers v_X_draft_talks_size a_X_draft_talks_cells v_X_draft_dues_size a_X_draft_dues_cells v_X_draft_sights_size a_X_draft_sights_cells v_X_draft_people_size a_X_draft_people_cells a_X_draft_settings _ _ _ hl hP hD hS hg
  have B43 : ∀ (x1 : Int32) (v_X_reader_place : Int32) (v_X_reader_token : Int32) (v_X_reader_first : Int32) (v_X_reader_number : Int32) (a_X_reader_numbers : Nat → Int32) (v_X_draft_talks_size : Int32) (a_X_draft_talks_cells : Nat → Int32) (v_X_draft_dues_size : Int32) (a_X_draft_dues_cells : Nat → Int32) (v_X_draft_sights_size : Int32) (a_X_draft_sights_cells : Nat → Int32) (v_X_draft_people_size : Int32) (a_X_draft_people_cells : Nat → Int32) (a_X_draft_settings : Nat → Int32) (H : Heap) (locs : List Loc) (ls : Array Slot) (hl : lv_has ls 5 [(0, .ref q_X_reader), (1, .int x1)]) (hP : va_P D vwCl (ws_X6_isItem cI cJ cZ cA q_X_reader q_X_text q_X_text_cells q_X_draft q_X_reader_numbers q_X_draft_talks q_X_draft_talks_cells q_X_draft_dues q_X_draft_dues_cells q_X_draft_sights q_X_draft_sights_cells q_X_draft_people q_X_draft_people_cells q_X_draft_settings u_X_text_limit u_X_draft_rule u_X_draft_stake N_X_text_cells N_X_draft_talks_cells N_X_draft_dues_cells N_X_draft_sights_cells N_X_draft_people_cells v_X_reader_place v_X_reader_token v_X_reader_first v_X_reader_number v_X_text_width v_X_text_size a_X_text_cells a_X_reader_numbers v_X_draft_talks_width v_X_draft_talks_limit v_X_draft_talks_size a_X_draft_talks_cells v_X_draft_dues_width v_X_draft_dues_limit v_X_draft_dues_size a_X_draft_dues_cells v_X_draft_sights_width v_X_draft_sights_limit v_X_draft_sights_size a_X_draft_sights_cells v_X_draft_people_width v_X_draft_people_limit v_X_draft_people_size a_X_draft_people_cells a_X_draft_settings) H) (hD : va_D A (ws_X6_isItem cI cJ cZ cA q_X_reader q_X_text q_X_text_cells q_X_draft q_X_reader_numbers q_X_draft_talks q_X_draft_talks_cells q_X_draft_dues q_X_draft_dues_cells q_X_draft_sights q_X_draft_sights_cells q_X_draft_people q_X_draft_people_cells q_X_draft_settings u_X_text_limit u_X_draft_rule u_X_draft_stake N_X_text_cells N_X_draft_talks_cells N_X_draft_dues_cells N_X_draft_sights_cells N_X_draft_people_cells v_X_reader_place v_X_reader_token v_X_reader_first v_X_reader_number v_X_text_width v_X_text_size a_X_text_cells a_X_reader_numbers v_X_draft_talks_width v_X_draft_talks_limit v_X_draft_talks_size a_X_draft_talks_cells v_X_draft_dues_width v_X_draft_dues_limit v_X_draft_dues_size a_X_draft_dues_cells v_X_draft_sights_width v_X_draft_sights_limit v_X_draft_sights_size a_X_draft_sights_cells v_X_draft_people_width v_X_draft_people_limit v_X_draft_people_size a_X_draft_people_cells a_X_draft_settings)) (hS : va_S A s.heap H locs), g_X6_isItem_43 N_X_text_cells N_X_draft_talks_cells N_X_draft_dues_cells N_X_draft_sights_cells N_X_draft_people_cells v_X_text_width v_X_text_size a_X_text_cells v_X_draft_talks_width v_X_draft_talks_limit v_X_draft_dues_width v_X_draft_dues_limit v_X_draft_sights_width v_X_draft_sights_limit v_X_draft_people_width v_X_draft_people_limit x1 v_X_reader_place v_X_reader_token v_X_reader_first v_X_reader_number a_X_reader_numbers v_X_draft_talks_size a_X_draft_talks_cells v_X_draft_dues_size a_X_draft_dues_cells v_X_draft_sights_size a_X_draft_sights_cells v_X_draft_people_size a_X_draft_people_cells a_X_draft_settings = some o → W p l e rm_X6_isItem s m args below meth c H locs 0 0 Q (F0 m 43 ls []) := by
    intro  x1 v_X_reader_place v_X_reader_token v_X_reader_first v_X_reader_number a_X_reader_numbers v_X_draft_talks_size a_X_draft_talks_cells v_X_draft_dues_size a_X_draft_dues_cells v_X_draft_sights_size a_X_draft_sights_cells v_X_draft_people_size a_X_draft_people_cells a_X_draft_settings H locs ls hl hP hD hS hg
    refine lv_aload_n hx hb dX6_isItem_43 rfl (lv_at hl 0 rfl) ?_
    obtain ⟨v1, hc2, hg⟩ := zbd hg
    refine zcallV (rest := []) S (c_X6_advance l D cI cJ cZ cA ga q_X_reader q_X_text q_X_text_cells (.ref q_X_draft) (.ref q_X_reader_numbers) u_X_text_limit N_X_text_cells v_X_reader_place v_X_reader_token v_X_reader_first v_X_reader_number v_X_text_width v_X_text_size a_X_text_cells v1 hc2) (zgV zw_347 zw_348 zw_349 zw_41 zw_350) rfl hd_X6_advance ⟨rfl, rfl⟩ ⟨Nat.le_of_ble_eq_true rfl, Nat.le_of_ble_eq_true rfl⟩ 0 6 rfl rfl rfl hl.1 rfl (Nat.le_of_ble_eq_true rfl) dX6_isItem_44 hP hD hS hA hK hG (isC := [0, 1, 2]) rfl (by decide +kernel) rfl ⟨Nat.zero_le _, Nat.zero_le _⟩ (pl := [some 0, some 1, some 2, none, none, none, none, none, none, none, none, none, none, none]) (nw := 14) rfl (by decide +kernel) (w2 := (ws_X6_isItem cI cJ cZ cA q_X_reader q_X_text q_X_text_cells q_X_draft q_X_reader_numbers q_X_draft_talks q_X_draft_talks_cells q_X_draft_dues q_X_draft_dues_cells q_X_draft_sights q_X_draft_sights_cells q_X_draft_people q_X_draft_people_cells q_X_draft_settings u_X_text_limit u_X_draft_rule u_X_draft_stake N_X_text_cells N_X_draft_talks_cells N_X_draft_dues_cells N_X_draft_sights_cells N_X_draft_people_cells v1.1 v1.2.1 v1.2.2.1 v1.2.2.2 v_X_text_width v_X_text_size a_X_text_cells a_X_reader_numbers v_X_draft_talks_width v_X_draft_talks_limit v_X_draft_talks_size a_X_draft_talks_cells v_X_draft_dues_width v_X_draft_dues_limit v_X_draft_dues_size a_X_draft_dues_cells v_X_draft_sights_width v_X_draft_sights_limit v_X_draft_sights_size a_X_draft_sights_cells v_X_draft_people_width v_X_draft_people_limit v_X_draft_people_size a_X_draft_people_cells a_X_draft_settings)) rfl (st1 := []) rfl (fun H locs hP hD hS => ?_)
    refine lv_iconst (v := 0) hx hb dX6_isItem_47 (by decide) ?_
    refine lv_istore_n (lv' := [(2, .int 0), (0, .ref q_X_reader), (1, .int x1)]) hx hb dX6_isItem_48 rfl hl (by decide) rfl (fun ls hl => ?_)
    exact B49 zF x1 0 v1.1 v1.2.1 v1.2.2.1 v1.2.2.2 a_X_reader_numbers v_X_draft_talks_size a_X_draft_talks_cells v_X_draft_dues_size a_X_draft_dues_cells v_X_draft_sights_size a_X_draft_sights_cells v_X_draft_people_size a_X_draft_people_cells a_X_draft_settings _ _ _ (lv_sub hl [1, 2, 0] rfl) hP hD hS hg
  have B16 : ∀ (t0 : Int32) (v_X_reader_place : Int32) (v_X_reader_token : Int32) (v_X_reader_first : Int32) (v_X_reader_number : Int32) (a_X_reader_numbers : Nat → Int32) (v_X_draft_talks_size : Int32) (a_X_draft_talks_cells : Nat → Int32) (v_X_draft_dues_size : Int32) (a_X_draft_dues_cells : Nat → Int32) (v_X_draft_sights_size : Int32) (a_X_draft_sights_cells : Nat → Int32) (v_X_draft_people_size : Int32) (a_X_draft_people_cells : Nat → Int32) (a_X_draft_settings : Nat → Int32) (H : Heap) (locs : List Loc) (ls : Array Slot) (hl : lv_has ls 5 [(0, .ref q_X_reader)]) (hP : va_P D vwCl (ws_X6_isItem cI cJ cZ cA q_X_reader q_X_text q_X_text_cells q_X_draft q_X_reader_numbers q_X_draft_talks q_X_draft_talks_cells q_X_draft_dues q_X_draft_dues_cells q_X_draft_sights q_X_draft_sights_cells q_X_draft_people q_X_draft_people_cells q_X_draft_settings u_X_text_limit u_X_draft_rule u_X_draft_stake N_X_text_cells N_X_draft_talks_cells N_X_draft_dues_cells N_X_draft_sights_cells N_X_draft_people_cells v_X_reader_place v_X_reader_token v_X_reader_first v_X_reader_number v_X_text_width v_X_text_size a_X_text_cells a_X_reader_numbers v_X_draft_talks_width v_X_draft_talks_limit v_X_draft_talks_size a_X_draft_talks_cells v_X_draft_dues_width v_X_draft_dues_limit v_X_draft_dues_size a_X_draft_dues_cells v_X_draft_sights_width v_X_draft_sights_limit v_X_draft_sights_size a_X_draft_sights_cells v_X_draft_people_width v_X_draft_people_limit v_X_draft_people_size a_X_draft_people_cells a_X_draft_settings) H) (hD : va_D A (ws_X6_isItem cI cJ cZ cA q_X_reader q_X_text q_X_text_cells q_X_draft q_X_reader_numbers q_X_draft_talks q_X_draft_talks_cells q_X_draft_dues q_X_draft_dues_cells q_X_draft_sights q_X_draft_sights_cells q_X_draft_people q_X_draft_people_cells q_X_draft_settings u_X_text_limit u_X_draft_rule u_X_draft_stake N_X_text_cells N_X_draft_talks_cells N_X_draft_dues_cells N_X_draft_sights_cells N_X_draft_people_cells v_X_reader_place v_X_reader_token v_X_reader_first v_X_reader_number v_X_text_width v_X_text_size a_X_text_cells a_X_reader_numbers v_X_draft_talks_width v_X_draft_talks_limit v_X_draft_talks_size a_X_draft_talks_cells v_X_draft_dues_width v_X_draft_dues_limit v_X_draft_dues_size a_X_draft_dues_cells v_X_draft_sights_width v_X_draft_sights_limit v_X_draft_sights_size a_X_draft_sights_cells v_X_draft_people_width v_X_draft_people_limit v_X_draft_people_size a_X_draft_people_cells a_X_draft_settings)) (hS : va_S A s.heap H locs), g_X6_isItem_16 N_X_text_cells N_X_draft_talks_cells N_X_draft_dues_cells N_X_draft_sights_cells N_X_draft_people_cells v_X_text_width v_X_text_size a_X_text_cells v_X_draft_talks_width v_X_draft_talks_limit v_X_draft_dues_width v_X_draft_dues_limit v_X_draft_sights_width v_X_draft_sights_limit v_X_draft_people_width v_X_draft_people_limit t0 v_X_reader_place v_X_reader_token v_X_reader_first v_X_reader_number a_X_reader_numbers v_X_draft_talks_size a_X_draft_talks_cells v_X_draft_dues_size a_X_draft_dues_cells v_X_draft_sights_size a_X_draft_sights_cells v_X_draft_people_size a_X_draft_people_cells a_X_draft_settings = some o → W p l e rm_X6_isItem s m args below meth c H locs 0 0 Q (F0 m 16 ls [.int t0]) := by
    intro  t0 v_X_reader_place v_X_reader_token v_X_reader_first v_X_reader_number a_X_reader_numbers v_X_draft_talks_size a_X_draft_talks_cells v_X_draft_dues_size a_X_draft_dues_cells v_X_draft_sights_size a_X_draft_sights_cells v_X_draft_people_size a_X_draft_people_cells a_X_draft_settings H locs ls hl hP hD hS hg
    refine lv_istore_n (lv' := [(1, .int t0), (0, .ref q_X_reader)]) hx hb dX6_isItem_16 rfl hl (by decide) rfl (fun ls hl => ?_)
    refine lv_iload_n hx hb dX6_isItem_17 rfl (lv_at hl 0 rfl) ?_
    refine lv_iconst (v := (-1)) hx hb dX6_isItem_18 (by decide) ?_
    refine lv_icmp_eq (tgt := 41) hx hb dX6_isItem_19 (by decide) (fun h19 => ?_) (fun h19 => ?_)
    · have hg := zp hg h19
      refine lv_iconst (v := 0) hx hb dX6_isItem_41 (by decide) ?_
      exact hret 0 v_X_reader_place v_X_reader_token v_X_reader_first v_X_reader_number a_X_reader_numbers v_X_draft_talks_size a_X_draft_talks_cells v_X_draft_dues_size a_X_draft_dues_cells v_X_draft_sights_size a_X_draft_sights_cells v_X_draft_people_size a_X_draft_people_cells a_X_draft_settings hg (zb01 (Or.inl rfl)) _ _ _ _ hP hS dX6_isItem_42
    · have hg := zn hg h19
      refine lv_iload_n hx hb dX6_isItem_22 rfl (lv_at hl 0 rfl) ?_
      refine lv_iconst (v := 3) hx hb dX6_isItem_23 (by decide) ?_
      refine lv_icmp_lt (tgt := 43) hx hb dX6_isItem_24 (by decide) (fun h24 => ?_) (fun h24 => ?_)
      · have hg := zp hg h24
        exact B43 t0 v_X_reader_place v_X_reader_token v_X_reader_first v_X_reader_number a_X_reader_numbers v_X_draft_talks_size a_X_draft_talks_cells v_X_draft_dues_size a_X_draft_dues_cells v_X_draft_sights_size a_X_draft_sights_cells v_X_draft_people_size a_X_draft_people_cells a_X_draft_settings _ _ _ (lv_sub hl [1, 0] rfl) hP hD hS hg
      · have hg := zn hg h24
        refine lv_aload_n hx hb dX6_isItem_27 rfl (lv_at hl 1 rfl) ?_
        refine zget (C := RX6) (T := TX6) (N := 7) S hK hP 0 rfl rfl 1 (Nat.le_of_ble_eq_true rfl) zf_6 zw_128 rfl dX6_isItem_28 ?_
        refine lv_iload_n hx hb dX6_isItem_31 rfl (lv_at hl 0 rfl) ?_
        obtain ⟨v16, hc17, hg⟩ := zbd hg
        by_cases h32_0 : v16 = 0
        · replace hg := zp hg h32_0
          subst h32_0
          refine zcallV (rest := []) S (c_X9_rowsOf l D cI cJ cZ cA ga q_X_draft q_X_draft_talks q_X_draft_dues q_X_draft_sights q_X_draft_people u_X_draft_rule (.ref q_X_draft_settings) u_X_draft_stake t0 0 hc17) (zgV zw_436 zw_237 zw_238 zw_23 zw_239) rfl hd_X9_rowsOf ⟨rfl, rfl⟩ ⟨Nat.le_of_ble_eq_true rfl, Nat.le_of_ble_eq_true rfl⟩ 3 9 rfl rfl rfl hl.1 rfl (Nat.le_of_ble_eq_true rfl) dX6_isItem_32 hP hD hS hA hK hG (isC := [3]) rfl (by decide +kernel) rfl ⟨Nat.zero_le _, Nat.zero_le _⟩ (pl := [none, none, none, some 0, none, none, none, none, none, none, none, none, none, none]) (nw := 14) rfl (by decide +kernel) (w2 := (ws_X6_isItem cI cJ cZ cA q_X_reader q_X_text q_X_text_cells q_X_draft q_X_reader_numbers q_X_draft_talks q_X_draft_talks_cells q_X_draft_dues q_X_draft_dues_cells q_X_draft_sights q_X_draft_sights_cells q_X_draft_people q_X_draft_people_cells q_X_draft_settings u_X_text_limit u_X_draft_rule u_X_draft_stake N_X_text_cells N_X_draft_talks_cells N_X_draft_dues_cells N_X_draft_sights_cells N_X_draft_people_cells v_X_reader_place v_X_reader_token v_X_reader_first v_X_reader_number v_X_text_width v_X_text_size a_X_text_cells a_X_reader_numbers v_X_draft_talks_width v_X_draft_talks_limit v_X_draft_talks_size a_X_draft_talks_cells v_X_draft_dues_width v_X_draft_dues_limit v_X_draft_dues_size a_X_draft_dues_cells v_X_draft_sights_width v_X_draft_sights_limit v_X_draft_sights_size a_X_draft_sights_cells v_X_draft_people_width v_X_draft_people_limit v_X_draft_people_size a_X_draft_people_cells a_X_draft_settings)) rfl (st1 := [.ref q_X_draft_talks]) rfl (fun H locs hP hD hS => ?_)
          obtain ⟨v18, hc19, hg⟩ := zbd hg
          refine zcallV (rest := []) S (c_X7_isFull l D cI cJ cZ cA ga q_X_draft_talks (.int v_X_draft_talks_width) (.ref q_X_draft_talks_cells) v_X_draft_talks_limit v_X_draft_talks_size v18 hc19) (zgV zw_437 zw_241 zw_242 zw_32 zw_243) rfl hd_X7_isFull ⟨rfl, rfl⟩ ⟨Nat.le_of_ble_eq_true rfl, Nat.le_of_ble_eq_true rfl⟩ 5 7 rfl rfl rfl hl.1 rfl (Nat.le_of_ble_eq_true rfl) dX6_isItem_35 hP hD hS hA hK hG (isC := [5]) rfl (by decide +kernel) rfl ⟨Nat.zero_le _, Nat.zero_le _⟩ (pl := [none, none, none, none, none, some 0, none, none, none, none, none, none, none, none]) (nw := 14) rfl (by decide +kernel) (w2 := (ws_X6_isItem cI cJ cZ cA q_X_reader q_X_text q_X_text_cells q_X_draft q_X_reader_numbers q_X_draft_talks q_X_draft_talks_cells q_X_draft_dues q_X_draft_dues_cells q_X_draft_sights q_X_draft_sights_cells q_X_draft_people q_X_draft_people_cells q_X_draft_settings u_X_text_limit u_X_draft_rule u_X_draft_stake N_X_text_cells N_X_draft_talks_cells N_X_draft_dues_cells N_X_draft_sights_cells N_X_draft_people_cells v_X_reader_place v_X_reader_token v_X_reader_first v_X_reader_number v_X_text_width v_X_text_size a_X_text_cells a_X_reader_numbers v_X_draft_talks_width v_X_draft_talks_limit v_X_draft_talks_size a_X_draft_talks_cells v_X_draft_dues_width v_X_draft_dues_limit v_X_draft_dues_size a_X_draft_dues_cells v_X_draft_sights_width v_X_draft_sights_limit v_X_draft_sights_size a_X_draft_sights_cells v_X_draft_people_width v_X_draft_people_limit v_X_draft_people_size a_X_draft_people_cells a_X_draft_settings)) rfl (st1 := [.int v18]) rfl (fun H locs hP hD hS => ?_)
          refine lv_if_eq (tgt := 43) hx hb dX6_isItem_38 (by decide) (fun h38 => ?_) (fun h38 => ?_)
          · have hg := zp hg h38
            exact B43 t0 v_X_reader_place v_X_reader_token v_X_reader_first v_X_reader_number a_X_reader_numbers v_X_draft_talks_size a_X_draft_talks_cells v_X_draft_dues_size a_X_draft_dues_cells v_X_draft_sights_size a_X_draft_sights_cells v_X_draft_people_size a_X_draft_people_cells a_X_draft_settings _ _ _ (lv_sub hl [1, 0] rfl) hP hD hS hg
          · have hg := zn hg h38
            refine lv_iconst (v := 0) hx hb dX6_isItem_41 (by decide) ?_
            exact hret 0 v_X_reader_place v_X_reader_token v_X_reader_first v_X_reader_number a_X_reader_numbers v_X_draft_talks_size a_X_draft_talks_cells v_X_draft_dues_size a_X_draft_dues_cells v_X_draft_sights_size a_X_draft_sights_cells v_X_draft_people_size a_X_draft_people_cells a_X_draft_settings hg (zb01 (Or.inl rfl)) _ _ _ _ hP hS dX6_isItem_42
        · replace hg := zn hg h32_0
          by_cases h32_1 : v16 = 1
          · replace hg := zp hg h32_1
            subst h32_1
            refine zcallV (rest := []) S (c_X9_rowsOf l D cI cJ cZ cA ga q_X_draft q_X_draft_talks q_X_draft_dues q_X_draft_sights q_X_draft_people u_X_draft_rule (.ref q_X_draft_settings) u_X_draft_stake t0 1 hc17) (zgV zw_436 zw_237 zw_238 zw_23 zw_239) rfl hd_X9_rowsOf ⟨rfl, rfl⟩ ⟨Nat.le_of_ble_eq_true rfl, Nat.le_of_ble_eq_true rfl⟩ 3 9 rfl rfl rfl hl.1 rfl (Nat.le_of_ble_eq_true rfl) dX6_isItem_32 hP hD hS hA hK hG (isC := [3]) rfl (by decide +kernel) rfl ⟨Nat.zero_le _, Nat.zero_le _⟩ (pl := [none, none, none, some 0, none, none, none, none, none, none, none, none, none, none]) (nw := 14) rfl (by decide +kernel) (w2 := (ws_X6_isItem cI cJ cZ cA q_X_reader q_X_text q_X_text_cells q_X_draft q_X_reader_numbers q_X_draft_talks q_X_draft_talks_cells q_X_draft_dues q_X_draft_dues_cells q_X_draft_sights q_X_draft_sights_cells q_X_draft_people q_X_draft_people_cells q_X_draft_settings u_X_text_limit u_X_draft_rule u_X_draft_stake N_X_text_cells N_X_draft_talks_cells N_X_draft_dues_cells N_X_draft_sights_cells N_X_draft_people_cells v_X_reader_place v_X_reader_token v_X_reader_first v_X_reader_number v_X_text_width v_X_text_size a_X_text_cells a_X_reader_numbers v_X_draft_talks_width v_X_draft_talks_limit v_X_draft_talks_size a_X_draft_talks_cells v_X_draft_dues_width v_X_draft_dues_limit v_X_draft_dues_size a_X_draft_dues_cells v_X_draft_sights_width v_X_draft_sights_limit v_X_draft_sights_size a_X_draft_sights_cells v_X_draft_people_width v_X_draft_people_limit v_X_draft_people_size a_X_draft_people_cells a_X_draft_settings)) rfl (st1 := [.ref q_X_draft_dues]) rfl (fun H locs hP hD hS => ?_)
            obtain ⟨v20, hc21, hg⟩ := zbd hg
            refine zcallV (rest := []) S (c_X7_isFull l D cI cJ cZ cA ga q_X_draft_dues (.int v_X_draft_dues_width) (.ref q_X_draft_dues_cells) v_X_draft_dues_limit v_X_draft_dues_size v20 hc21) (zgV zw_437 zw_241 zw_242 zw_32 zw_243) rfl hd_X7_isFull ⟨rfl, rfl⟩ ⟨Nat.le_of_ble_eq_true rfl, Nat.le_of_ble_eq_true rfl⟩ 7 7 rfl rfl rfl hl.1 rfl (Nat.le_of_ble_eq_true rfl) dX6_isItem_35 hP hD hS hA hK hG (isC := [7]) rfl (by decide +kernel) rfl ⟨Nat.zero_le _, Nat.zero_le _⟩ (pl := [none, none, none, none, none, none, none, some 0, none, none, none, none, none, none]) (nw := 14) rfl (by decide +kernel) (w2 := (ws_X6_isItem cI cJ cZ cA q_X_reader q_X_text q_X_text_cells q_X_draft q_X_reader_numbers q_X_draft_talks q_X_draft_talks_cells q_X_draft_dues q_X_draft_dues_cells q_X_draft_sights q_X_draft_sights_cells q_X_draft_people q_X_draft_people_cells q_X_draft_settings u_X_text_limit u_X_draft_rule u_X_draft_stake N_X_text_cells N_X_draft_talks_cells N_X_draft_dues_cells N_X_draft_sights_cells N_X_draft_people_cells v_X_reader_place v_X_reader_token v_X_reader_first v_X_reader_number v_X_text_width v_X_text_size a_X_text_cells a_X_reader_numbers v_X_draft_talks_width v_X_draft_talks_limit v_X_draft_talks_size a_X_draft_talks_cells v_X_draft_dues_width v_X_draft_dues_limit v_X_draft_dues_size a_X_draft_dues_cells v_X_draft_sights_width v_X_draft_sights_limit v_X_draft_sights_size a_X_draft_sights_cells v_X_draft_people_width v_X_draft_people_limit v_X_draft_people_size a_X_draft_people_cells a_X_draft_settings)) rfl (st1 := [.int v20]) rfl (fun H locs hP hD hS => ?_)
            refine lv_if_eq (tgt := 43) hx hb dX6_isItem_38 (by decide) (fun h38 => ?_) (fun h38 => ?_)
            · have hg := zp hg h38
              exact B43 t0 v_X_reader_place v_X_reader_token v_X_reader_first v_X_reader_number a_X_reader_numbers v_X_draft_talks_size a_X_draft_talks_cells v_X_draft_dues_size a_X_draft_dues_cells v_X_draft_sights_size a_X_draft_sights_cells v_X_draft_people_size a_X_draft_people_cells a_X_draft_settings _ _ _ (lv_sub hl [1, 0] rfl) hP hD hS hg
            · have hg := zn hg h38
              refine lv_iconst (v := 0) hx hb dX6_isItem_41 (by decide) ?_
              exact hret 0 v_X_reader_place v_X_reader_token v_X_reader_first v_X_reader_number a_X_reader_numbers v_X_draft_talks_size a_X_draft_talks_cells v_X_draft_dues_size a_X_draft_dues_cells v_X_draft_sights_size a_X_draft_sights_cells v_X_draft_people_size a_X_draft_people_cells a_X_draft_settings hg (zb01 (Or.inl rfl)) _ _ _ _ hP hS dX6_isItem_42
          · replace hg := zn hg h32_1
            by_cases h32_2 : v16 = 2
            · replace hg := zp hg h32_2
              subst h32_2
              refine zcallV (rest := []) S (c_X9_rowsOf l D cI cJ cZ cA ga q_X_draft q_X_draft_talks q_X_draft_dues q_X_draft_sights q_X_draft_people u_X_draft_rule (.ref q_X_draft_settings) u_X_draft_stake t0 2 hc17) (zgV zw_436 zw_237 zw_238 zw_23 zw_239) rfl hd_X9_rowsOf ⟨rfl, rfl⟩ ⟨Nat.le_of_ble_eq_true rfl, Nat.le_of_ble_eq_true rfl⟩ 3 9 rfl rfl rfl hl.1 rfl (Nat.le_of_ble_eq_true rfl) dX6_isItem_32 hP hD hS hA hK hG (isC := [3]) rfl (by decide +kernel) rfl ⟨Nat.zero_le _, Nat.zero_le _⟩ (pl := [none, none, none, some 0, none, none, none, none, none, none, none, none, none, none]) (nw := 14) rfl (by decide +kernel) (w2 := (ws_X6_isItem cI cJ cZ cA q_X_reader q_X_text q_X_text_cells q_X_draft q_X_reader_numbers q_X_draft_talks q_X_draft_talks_cells q_X_draft_dues q_X_draft_dues_cells q_X_draft_sights q_X_draft_sights_cells q_X_draft_people q_X_draft_people_cells q_X_draft_settings u_X_text_limit u_X_draft_rule u_X_draft_stake N_X_text_cells N_X_draft_talks_cells N_X_draft_dues_cells N_X_draft_sights_cells N_X_draft_people_cells v_X_reader_place v_X_reader_token v_X_reader_first v_X_reader_number v_X_text_width v_X_text_size a_X_text_cells a_X_reader_numbers v_X_draft_talks_width v_X_draft_talks_limit v_X_draft_talks_size a_X_draft_talks_cells v_X_draft_dues_width v_X_draft_dues_limit v_X_draft_dues_size a_X_draft_dues_cells v_X_draft_sights_width v_X_draft_sights_limit v_X_draft_sights_size a_X_draft_sights_cells v_X_draft_people_width v_X_draft_people_limit v_X_draft_people_size a_X_draft_people_cells a_X_draft_settings)) rfl (st1 := [.ref q_X_draft_sights]) rfl (fun H locs hP hD hS => ?_)
              obtain ⟨v22, hc23, hg⟩ := zbd hg
              refine zcallV (rest := []) S (c_X7_isFull l D cI cJ cZ cA ga q_X_draft_sights (.int v_X_draft_sights_width) (.ref q_X_draft_sights_cells) v_X_draft_sights_limit v_X_draft_sights_size v22 hc23) (zgV zw_437 zw_241 zw_242 zw_32 zw_243) rfl hd_X7_isFull ⟨rfl, rfl⟩ ⟨Nat.le_of_ble_eq_true rfl, Nat.le_of_ble_eq_true rfl⟩ 9 7 rfl rfl rfl hl.1 rfl (Nat.le_of_ble_eq_true rfl) dX6_isItem_35 hP hD hS hA hK hG (isC := [9]) rfl (by decide +kernel) rfl ⟨Nat.zero_le _, Nat.zero_le _⟩ (pl := [none, none, none, none, none, none, none, none, none, some 0, none, none, none, none]) (nw := 14) rfl (by decide +kernel) (w2 := (ws_X6_isItem cI cJ cZ cA q_X_reader q_X_text q_X_text_cells q_X_draft q_X_reader_numbers q_X_draft_talks q_X_draft_talks_cells q_X_draft_dues q_X_draft_dues_cells q_X_draft_sights q_X_draft_sights_cells q_X_draft_people q_X_draft_people_cells q_X_draft_settings u_X_text_limit u_X_draft_rule u_X_draft_stake N_X_text_cells N_X_draft_talks_cells N_X_draft_dues_cells N_X_draft_sights_cells N_X_draft_people_cells v_X_reader_place v_X_reader_token v_X_reader_first v_X_reader_number v_X_text_width v_X_text_size a_X_text_cells a_X_reader_numbers v_X_draft_talks_width v_X_draft_talks_limit v_X_draft_talks_size a_X_draft_talks_cells v_X_draft_dues_width v_X_draft_dues_limit v_X_draft_dues_size a_X_draft_dues_cells v_X_draft_sights_width v_X_draft_sights_limit v_X_draft_sights_size a_X_draft_sights_cells v_X_draft_people_width v_X_draft_people_limit v_X_draft_people_size a_X_draft_people_cells a_X_draft_settings)) rfl (st1 := [.int v22]) rfl (fun H locs hP hD hS => ?_)
              refine lv_if_eq (tgt := 43) hx hb dX6_isItem_38 (by decide) (fun h38 => ?_) (fun h38 => ?_)
              · have hg := zp hg h38
                exact B43 t0 v_X_reader_place v_X_reader_token v_X_reader_first v_X_reader_number a_X_reader_numbers v_X_draft_talks_size a_X_draft_talks_cells v_X_draft_dues_size a_X_draft_dues_cells v_X_draft_sights_size a_X_draft_sights_cells v_X_draft_people_size a_X_draft_people_cells a_X_draft_settings _ _ _ (lv_sub hl [1, 0] rfl) hP hD hS hg
              · have hg := zn hg h38
                refine lv_iconst (v := 0) hx hb dX6_isItem_41 (by decide) ?_
                exact hret 0 v_X_reader_place v_X_reader_token v_X_reader_first v_X_reader_number a_X_reader_numbers v_X_draft_talks_size a_X_draft_talks_cells v_X_draft_dues_size a_X_draft_dues_cells v_X_draft_sights_size a_X_draft_sights_cells v_X_draft_people_size a_X_draft_people_cells a_X_draft_settings hg (zb01 (Or.inl rfl)) _ _ _ _ hP hS dX6_isItem_42
            · replace hg := zn hg h32_2
              by_cases h32_3 : v16 = 3
              · replace hg := zp hg h32_3
                subst h32_3
                refine zcallV (rest := []) S (c_X9_rowsOf l D cI cJ cZ cA ga q_X_draft q_X_draft_talks q_X_draft_dues q_X_draft_sights q_X_draft_people u_X_draft_rule (.ref q_X_draft_settings) u_X_draft_stake t0 3 hc17) (zgV zw_436 zw_237 zw_238 zw_23 zw_239) rfl hd_X9_rowsOf ⟨rfl, rfl⟩ ⟨Nat.le_of_ble_eq_true rfl, Nat.le_of_ble_eq_true rfl⟩ 3 9 rfl rfl rfl hl.1 rfl (Nat.le_of_ble_eq_true rfl) dX6_isItem_32 hP hD hS hA hK hG (isC := [3]) rfl (by decide +kernel) rfl ⟨Nat.zero_le _, Nat.zero_le _⟩ (pl := [none, none, none, some 0, none, none, none, none, none, none, none, none, none, none]) (nw := 14) rfl (by decide +kernel) (w2 := (ws_X6_isItem cI cJ cZ cA q_X_reader q_X_text q_X_text_cells q_X_draft q_X_reader_numbers q_X_draft_talks q_X_draft_talks_cells q_X_draft_dues q_X_draft_dues_cells q_X_draft_sights q_X_draft_sights_cells q_X_draft_people q_X_draft_people_cells q_X_draft_settings u_X_text_limit u_X_draft_rule u_X_draft_stake N_X_text_cells N_X_draft_talks_cells N_X_draft_dues_cells N_X_draft_sights_cells N_X_draft_people_cells v_X_reader_place v_X_reader_token v_X_reader_first v_X_reader_number v_X_text_width v_X_text_size a_X_text_cells a_X_reader_numbers v_X_draft_talks_width v_X_draft_talks_limit v_X_draft_talks_size a_X_draft_talks_cells v_X_draft_dues_width v_X_draft_dues_limit v_X_draft_dues_size a_X_draft_dues_cells v_X_draft_sights_width v_X_draft_sights_limit v_X_draft_sights_size a_X_draft_sights_cells v_X_draft_people_width v_X_draft_people_limit v_X_draft_people_size a_X_draft_people_cells a_X_draft_settings)) rfl (st1 := [.ref q_X_draft_people]) rfl (fun H locs hP hD hS => ?_)
                obtain ⟨v24, hc25, hg⟩ := zbd hg
                refine zcallV (rest := []) S (c_X7_isFull l D cI cJ cZ cA ga q_X_draft_people (.int v_X_draft_people_width) (.ref q_X_draft_people_cells) v_X_draft_people_limit v_X_draft_people_size v24 hc25) (zgV zw_437 zw_241 zw_242 zw_32 zw_243) rfl hd_X7_isFull ⟨rfl, rfl⟩ ⟨Nat.le_of_ble_eq_true rfl, Nat.le_of_ble_eq_true rfl⟩ 11 7 rfl rfl rfl hl.1 rfl (Nat.le_of_ble_eq_true rfl) dX6_isItem_35 hP hD hS hA hK hG (isC := [11]) rfl (by decide +kernel) rfl ⟨Nat.zero_le _, Nat.zero_le _⟩ (pl := [none, none, none, none, none, none, none, none, none, none, none, some 0, none, none]) (nw := 14) rfl (by decide +kernel) (w2 := (ws_X6_isItem cI cJ cZ cA q_X_reader q_X_text q_X_text_cells q_X_draft q_X_reader_numbers q_X_draft_talks q_X_draft_talks_cells q_X_draft_dues q_X_draft_dues_cells q_X_draft_sights q_X_draft_sights_cells q_X_draft_people q_X_draft_people_cells q_X_draft_settings u_X_text_limit u_X_draft_rule u_X_draft_stake N_X_text_cells N_X_draft_talks_cells N_X_draft_dues_cells N_X_draft_sights_cells N_X_draft_people_cells v_X_reader_place v_X_reader_token v_X_reader_first v_X_reader_number v_X_text_width v_X_text_size a_X_text_cells a_X_reader_numbers v_X_draft_talks_width v_X_draft_talks_limit v_X_draft_talks_size a_X_draft_talks_cells v_X_draft_dues_width v_X_draft_dues_limit v_X_draft_dues_size a_X_draft_dues_cells v_X_draft_sights_width v_X_draft_sights_limit v_X_draft_sights_size a_X_draft_sights_cells v_X_draft_people_width v_X_draft_people_limit v_X_draft_people_size a_X_draft_people_cells a_X_draft_settings)) rfl (st1 := [.int v24]) rfl (fun H locs hP hD hS => ?_)
                refine lv_if_eq (tgt := 43) hx hb dX6_isItem_38 (by decide) (fun h38 => ?_) (fun h38 => ?_)
                · have hg := zp hg h38
                  exact B43 t0 v_X_reader_place v_X_reader_token v_X_reader_first v_X_reader_number a_X_reader_numbers v_X_draft_talks_size a_X_draft_talks_cells v_X_draft_dues_size a_X_draft_dues_cells v_X_draft_sights_size a_X_draft_sights_cells v_X_draft_people_size a_X_draft_people_cells a_X_draft_settings _ _ _ (lv_sub hl [1, 0] rfl) hP hD hS hg
                · have hg := zn hg h38
                  refine lv_iconst (v := 0) hx hb dX6_isItem_41 (by decide) ?_
                  exact hret 0 v_X_reader_place v_X_reader_token v_X_reader_first v_X_reader_number a_X_reader_numbers v_X_draft_talks_size a_X_draft_talks_cells v_X_draft_dues_size a_X_draft_dues_cells v_X_draft_sights_size a_X_draft_sights_cells v_X_draft_people_size a_X_draft_people_cells a_X_draft_settings hg (zb01 (Or.inl rfl)) _ _ _ _ hP hS dX6_isItem_42
              · replace hg := zn hg h32_3
                cases hg
  refine lv_aload_n hx hb dX6_isItem_0 rfl (lv_at hl 0 rfl) ?_
  refine zget (C := RX6) (T := TX6) (N := 7) S hK hP 0 rfl rfl 4 (Nat.le_of_ble_eq_true rfl) zf_6 zw_345 rfl dX6_isItem_1 ?_
  refine lv_iconst (v := 1) hx hb dX6_isItem_4 (by decide) ?_
  refine lv_icmp_ne (tgt := 15) hx hb dX6_isItem_5 (by decide) (fun h5 => ?_) (fun h5 => ?_)
  · have hg := zn hg h5
    refine lv_iconst (v := (-1)) hx hb dX6_isItem_15 (by decide) ?_
    exact B16 (-1) v_X_reader_place v_X_reader_token v_X_reader_first v_X_reader_number a_X_reader_numbers v_X_draft_talks_size a_X_draft_talks_cells v_X_draft_dues_size a_X_draft_dues_cells v_X_draft_sights_size a_X_draft_sights_cells v_X_draft_people_size a_X_draft_people_cells a_X_draft_settings _ _ _ hl hP hD hS hg
  · have hg := zp hg h5
    refine lv_aload_n hx hb dX6_isItem_8 rfl (lv_at hl 0 rfl) ?_
    obtain ⟨v26, hc27, hg⟩ := zbd hg
    refine zcallV (rest := []) S (c_X6_itemAtHand l D cI cJ cZ cA ga q_X_reader q_X_text q_X_text_cells (.ref q_X_draft) (.ref q_X_reader_numbers) (.int v_X_reader_token) (.int v_X_reader_number) u_X_text_limit N_X_text_cells v_X_reader_place v_X_reader_first v_X_text_width v_X_text_size a_X_text_cells v26 hc27) (zgV zw_376 zw_377 zw_378 zw_41 zw_379) rfl hd_X6_itemAtHand ⟨rfl, rfl⟩ ⟨Nat.le_of_ble_eq_true rfl, Nat.le_of_ble_eq_true rfl⟩ 0 6 rfl rfl rfl hl.1 rfl (Nat.le_of_ble_eq_true rfl) dX6_isItem_9 hP hD hS hA hK hG (isC := [0, 1, 2]) rfl (by decide +kernel) rfl ⟨Nat.zero_le _, Nat.zero_le _⟩ (pl := [some 0, some 1, some 2, none, none, none, none, none, none, none, none, none, none, none]) (nw := 14) rfl (by decide +kernel) (w2 := (ws_X6_isItem cI cJ cZ cA q_X_reader q_X_text q_X_text_cells q_X_draft q_X_reader_numbers q_X_draft_talks q_X_draft_talks_cells q_X_draft_dues q_X_draft_dues_cells q_X_draft_sights q_X_draft_sights_cells q_X_draft_people q_X_draft_people_cells q_X_draft_settings u_X_text_limit u_X_draft_rule u_X_draft_stake N_X_text_cells N_X_draft_talks_cells N_X_draft_dues_cells N_X_draft_sights_cells N_X_draft_people_cells v_X_reader_place v_X_reader_token v_X_reader_first v_X_reader_number v_X_text_width v_X_text_size a_X_text_cells a_X_reader_numbers v_X_draft_talks_width v_X_draft_talks_limit v_X_draft_talks_size a_X_draft_talks_cells v_X_draft_dues_width v_X_draft_dues_limit v_X_draft_dues_size a_X_draft_dues_cells v_X_draft_sights_width v_X_draft_sights_limit v_X_draft_sights_size a_X_draft_sights_cells v_X_draft_people_width v_X_draft_people_limit v_X_draft_people_size a_X_draft_people_cells a_X_draft_settings)) rfl (st1 := [.int v26]) rfl (fun H locs hP hD hS => ?_)
    refine lv_goto (tgt := 16) hx hb dX6_isItem_12 (by decide) ?_
    exact B16 v26 v_X_reader_place v_X_reader_token v_X_reader_first v_X_reader_number a_X_reader_numbers v_X_draft_talks_size a_X_draft_talks_cells v_X_draft_dues_size a_X_draft_dues_cells v_X_draft_sights_size a_X_draft_sights_cells v_X_draft_people_size a_X_draft_people_cells a_X_draft_settings _ _ _ hl hP hD hS hg

