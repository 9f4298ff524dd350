abbrev rmr_X8 (d : Nat) : Room := { frames := d + 16, cells := 0, slots := 0, locals := 40 * d + 400 }

theorem hd_X8_parseLevel : yX8_parseLevel.cls = RX8 ∧ yX8_parseLevel.cls ≠ "java/lang/invoke/MethodHandle" ∧ yX8_parseLevel.cls ≠ "java/lang/invoke/VarHandle" ∧ (parseMethodDescriptor yX8_parseLevel.desc).map (fun d => d.parameters.length) = some 2 := by decide +kernel
theorem hd_X8_parseUnit : yX8_parseUnit.cls = RX8 ∧ yX8_parseUnit.cls ≠ "java/lang/invoke/MethodHandle" ∧ yX8_parseUnit.cls ≠ "java/lang/invoke/VarHandle" ∧ (parseMethodDescriptor yX8_parseUnit.desc).map (fun d => d.parameters.length) = some 1 := by decide +kernel
theorem hd_X8_parseOperand : yX8_parseOperand.cls = RX8 ∧ yX8_parseOperand.cls ≠ "java/lang/invoke/MethodHandle" ∧ yX8_parseOperand.cls ≠ "java/lang/invoke/VarHandle" ∧ (parseMethodDescriptor yX8_parseOperand.desc).map (fun d => d.parameters.length) = some 1 := by decide +kernel
/-! SpokenClock$Rule.parseLevel(II)V -/
abbrev ws_X8_parseLevel (cI cJ cZ cA : ClassId) (q_X_rule q_X_now q_X_now_rule q_X_now_rule_cells q_X_rule_row : Nat) (u_X_rule_stack : Value) (u_X_rule_known : Value) (u_X_rule_isStale : Value) (u_X_now_people : Value) (u_X_now_talks : Value) (u_X_now_dues : Value) (u_X_now_sights : Value) (u_X_now_settings : Value) (u_X_now_stake : Value) (u_X_now_rule_limit : Value) (N_X_now_rule_cells : Nat) (v_X_rule_size : Int32) (v_X_rule_place : Int32) (v_X_rule_fault : Int32) (v_X_now_rule_width : Int32) (v_X_now_rule_size : Int32) (a_X_now_rule_cells : Nat → Int32) (a_X_rule_row : Nat → Int32) : va_W := [(q_X_rule, .inr (8, [.ref q_X_now, .ref q_X_rule_row, u_X_rule_stack, u_X_rule_known, .int v_X_rule_size, .int v_X_rule_place, .int v_X_rule_fault, u_X_rule_isStale])), (q_X_now, .inr (9, [u_X_now_people, u_X_now_talks, u_X_now_dues, u_X_now_sights, .ref q_X_now_rule, u_X_now_settings, u_X_now_stake])), (q_X_now_rule, .inr (7, [.int v_X_now_rule_width, u_X_now_rule_limit, .ref q_X_now_rule_cells, .int v_X_now_rule_size])), (q_X_now_rule_cells, .inl (cI, N_X_now_rule_cells, .inl a_X_now_rule_cells)), (q_X_rule_row, .inl (cI, 40, .inl a_X_rule_row))]
def g_X8_parseLevel_34b (N_X_now_rule_cells : Nat) (v_X_now_rule_width : Int32) (v_X_now_rule_size : Int32) (a_X_now_rule_cells : Nat → Int32) (x1 : Int32) (x2 : Int32) (rec : Nat → Int32 → Int32 → Int32 → Int32 → Int32 → (Nat → Int32) → Option (Int32 × Int32 × Int32 × (Nat → Int32))) (k34 : Int32 → Int32 → Int32 → Int32 → Int32 → (Nat → Int32) → Option (Int32 × Int32 × Int32 × (Nat → Int32))) (x3 : Int32) (x4 : Int32) (v_X_rule_size : Int32) (v_X_rule_place : Int32) (v_X_rule_fault : Int32) (a_X_rule_row : Nat → Int32) : Option (Int32 × Int32 × Int32 × (Nat → Int32)) :=
  if x3 ≤ x4 then (
    some (v_X_rule_size, v_X_rule_place, v_X_rule_fault, a_X_rule_row)
  ) else (
    if v_X_rule_fault = (-1) then (
      (g_X8_ahead N_X_now_rule_cells v_X_now_rule_width v_X_now_rule_size a_X_now_rule_cells v_X_rule_place).bind fun v3 =>
      (g_X8_rankOf v3.1).bind fun v5 =>
      if v5 = x1 then (
        (g_X8_ahead N_X_now_rule_cells v_X_now_rule_width v_X_now_rule_size a_X_now_rule_cells v3.2).bind fun v7 =>
        (rec 0 (x1 + 1) x2 v_X_rule_size (v7.2 + 1) v_X_rule_fault a_X_rule_row).bind fun v9 =>
        (g_X8_emit v9.2.2.1 (-v7.1) v9.1 v9.2.2.2).bind fun v11 =>
        k34 x3 (x4 + 1) v11.1 v9.2.1 v9.2.2.1 v11.2
      ) else (
        some (v_X_rule_size, v3.2, v_X_rule_fault, a_X_rule_row)
      )
    ) else (
      some (v_X_rule_size, v_X_rule_place, v_X_rule_fault, a_X_rule_row)
    )
  )
def g_X8_parseLevel_34 (N_X_now_rule_cells : Nat) (v_X_now_rule_width : Int32) (v_X_now_rule_size : Int32) (a_X_now_rule_cells : Nat → Int32) (x1 : Int32) (x2 : Int32) (rec : Nat → Int32 → Int32 → Int32 → Int32 → Int32 → (Nat → Int32) → Option (Int32 × Int32 × Int32 × (Nat → Int32))) : Nat → Int32 → Int32 → Int32 → Int32 → Int32 → (Nat → Int32) → Option (Int32 × Int32 × Int32 × (Nat → Int32))
  | 0, _, _, _, _, _, _ => none
  | n + 1, x3, x4, v_X_rule_size, v_X_rule_place, v_X_rule_fault, a_X_rule_row => g_X8_parseLevel_34b N_X_now_rule_cells v_X_now_rule_width v_X_now_rule_size a_X_now_rule_cells x1 x2 rec (g_X8_parseLevel_34 N_X_now_rule_cells v_X_now_rule_width v_X_now_rule_size a_X_now_rule_cells x1 x2 rec n) x3 x4 v_X_rule_size v_X_rule_place v_X_rule_fault a_X_rule_row
def g_X8_parseLevel_30 (N_X_now_rule_cells : Nat) (v_X_now_rule_width : Int32) (v_X_now_rule_size : Int32) (a_X_now_rule_cells : Nat → Int32) (x1 : Int32) (x2 : Int32) (rec : Nat → Int32 → Int32 → Int32 → Int32 → Int32 → (Nat → Int32) → Option (Int32 × Int32 × Int32 × (Nat → Int32))) (t0 : Int32) (v_X_rule_size : Int32) (v_X_rule_place : Int32) (v_X_rule_fault : Int32) (a_X_rule_row : Nat → Int32) : Option (Int32 × Int32 × Int32 × (Nat → Int32)) :=
  g_X8_parseLevel_34 N_X_now_rule_cells v_X_now_rule_width v_X_now_rule_size a_X_now_rule_cells x1 x2 rec zF t0 0 v_X_rule_size v_X_rule_place v_X_rule_fault a_X_rule_row
def g_X8_parseLevel (N_X_now_rule_cells : Nat) (v_X_now_rule_width : Int32) (v_X_now_rule_size : Int32) (a_X_now_rule_cells : Nat → Int32) (x1 : Int32) (x2 : Int32) (rec : Nat → Int32 → Int32 → Int32 → Int32 → Int32 → (Nat → Int32) → Option (Int32 × Int32 × Int32 × (Nat → Int32))) (v_X_rule_size : Int32) (v_X_rule_place : Int32) (v_X_rule_fault : Int32) (a_X_rule_row : Nat → Int32) : Option (Int32 × Int32 × Int32 × (Nat → Int32)) :=
  if x1 ≤ 4 then (
    (rec 0 (x1 + 1) x2 v_X_rule_size v_X_rule_place v_X_rule_fault a_X_rule_row).bind fun v1 =>
    if x1 = 2 then (
      g_X8_parseLevel_30 N_X_now_rule_cells v_X_now_rule_width v_X_now_rule_size a_X_now_rule_cells x1 x2 rec 1 v1.1 v1.2.1 v1.2.2.1 v1.2.2.2
    ) else (
      g_X8_parseLevel_30 N_X_now_rule_cells v_X_now_rule_width v_X_now_rule_size a_X_now_rule_cells x1 x2 rec 40 v1.1 v1.2.1 v1.2.2.1 v1.2.2.2
    )
  ) else (
    (rec 1 x2 0 v_X_rule_size v_X_rule_place v_X_rule_fault a_X_rule_row).bind fun v13 =>
    some (v13.1, v13.2.1, v13.2.2.1, v13.2.2.2)
  )
set_option maxHeartbeats 4000000 in
set_option maxRecDepth 100000 in
theorem c_X8_parseLevel (l : Launch) (D : va_G) (cI cJ cZ cA : ClassId) (ga : Nat → Nat) (q_X_rule q_X_now q_X_now_rule q_X_now_rule_cells q_X_rule_row : Nat) (u_X_rule_stack : Value) (u_X_rule_known : Value) (u_X_rule_isStale : Value) (u_X_now_people : Value) (u_X_now_talks : Value) (u_X_now_dues : Value) (u_X_now_sights : Value) (u_X_now_settings : Value) (u_X_now_stake : Value) (u_X_now_rule_limit : Value) (N_X_now_rule_cells : Nat) (v_X_rule_size : Int32) (v_X_rule_place : Int32) (v_X_rule_fault : Int32) (v_X_now_rule_width : Int32) (v_X_now_rule_size : Int32) (a_X_now_rule_cells : Nat → Int32) (a_X_rule_row : Nat → Int32) (x1 : Int32) (x2 : Int32) (d : Nat) (rec : Nat → Int32 → Int32 → Int32 → Int32 → Int32 → (Nat → Int32) → Option (Int32 × Int32 × Int32 × (Nat → Int32))) (hrec0 : ∀ (a9 b9 : Int32) (v_X_rule_size : Int32) (v_X_rule_place : Int32) (v_X_rule_fault : Int32) (a_X_rule_row : Nat → Int32) (o : Int32 × Int32 × Int32 × (Nat → Int32)), rec 0 a9 b9 v_X_rule_size v_X_rule_place v_X_rule_fault a_X_rule_row = some o → zM l yX8_parseLevel (Cond.code yX8_parseLevel cX8_parseLevel 6 none :: wsL_law) (rmr_X8 d) D (zTy cI cJ cZ cA) ga [.ref q_X_rule, .int a9, .int b9] (ws_X8_parseLevel cI cJ cZ cA q_X_rule q_X_now q_X_now_rule q_X_now_rule_cells q_X_rule_row u_X_rule_stack u_X_rule_known u_X_rule_isStale u_X_now_people u_X_now_talks u_X_now_dues u_X_now_sights u_X_now_settings u_X_now_stake u_X_now_rule_limit N_X_now_rule_cells v_X_rule_size v_X_rule_place v_X_rule_fault v_X_now_rule_width v_X_now_rule_size a_X_now_rule_cells a_X_rule_row) (ws_X8_parseLevel cI cJ cZ cA q_X_rule q_X_now q_X_now_rule q_X_now_rule_cells q_X_rule_row u_X_rule_stack u_X_rule_known u_X_rule_isStale u_X_now_people u_X_now_talks u_X_now_dues u_X_now_sights u_X_now_settings u_X_now_stake u_X_now_rule_limit N_X_now_rule_cells o.1 o.2.1 o.2.2.1 v_X_now_rule_width v_X_now_rule_size a_X_now_rule_cells o.2.2.2) none) (hrec1 : ∀ (a9 : Int32) (v_X_rule_size : Int32) (v_X_rule_place : Int32) (v_X_rule_fault : Int32) (a_X_rule_row : Nat → Int32) (o : Int32 × Int32 × Int32 × (Nat → Int32)), rec 1 a9 0 v_X_rule_size v_X_rule_place v_X_rule_fault a_X_rule_row = some o → zM l yX8_parseUnit (Cond.code yX8_parseUnit cX8_parseUnit 6 none :: wsL_law) (rmr_X8 d) D (zTy cI cJ cZ cA) ga [.ref q_X_rule, .int a9] (ws_X8_parseLevel cI cJ cZ cA q_X_rule q_X_now q_X_now_rule q_X_now_rule_cells q_X_rule_row u_X_rule_stack u_X_rule_known u_X_rule_isStale u_X_now_people u_X_now_talks u_X_now_dues u_X_now_sights u_X_now_settings u_X_now_stake u_X_now_rule_limit N_X_now_rule_cells v_X_rule_size v_X_rule_place v_X_rule_fault v_X_now_rule_width v_X_now_rule_size a_X_now_rule_cells a_X_rule_row) (ws_X8_parseLevel cI cJ cZ cA q_X_rule q_X_now q_X_now_rule q_X_now_rule_cells q_X_rule_row u_X_rule_stack u_X_rule_known u_X_rule_isStale u_X_now_people u_X_now_talks u_X_now_dues u_X_now_sights u_X_now_settings u_X_now_stake u_X_now_rule_limit N_X_now_rule_cells o.1 o.2.1 o.2.2.1 v_X_now_rule_width v_X_now_rule_size a_X_now_rule_cells o.2.2.2) none) (hrec2 : ∀ (a9 : Int32) (v_X_rule_size : Int32) (v_X_rule_place : Int32) (v_X_rule_fault : Int32) (a_X_rule_row : Nat → Int32) (o : Int32 × Int32 × Int32 × (Nat → Int32)), rec 2 a9 0 v_X_rule_size v_X_rule_place v_X_rule_fault a_X_rule_row = some o → zM l yX8_parseOperand (Cond.code yX8_parseOperand cX8_parseOperand 3 none :: wsL_law) (rmr_X8 d) D (zTy cI cJ cZ cA) ga [.ref q_X_rule, .int a9] (ws_X8_parseLevel cI cJ cZ cA q_X_rule q_X_now q_X_now_rule q_X_now_rule_cells q_X_rule_row u_X_rule_stack u_X_rule_known u_X_rule_isStale u_X_now_people u_X_now_talks u_X_now_dues u_X_now_sights u_X_now_settings u_X_now_stake u_X_now_rule_limit N_X_now_rule_cells v_X_rule_size v_X_rule_place v_X_rule_fault v_X_now_rule_width v_X_now_rule_size a_X_now_rule_cells a_X_rule_row) (ws_X8_parseLevel cI cJ cZ cA q_X_rule q_X_now q_X_now_rule q_X_now_rule_cells q_X_rule_row u_X_rule_stack u_X_rule_known u_X_rule_isStale u_X_now_people u_X_now_talks u_X_now_dues u_X_now_sights u_X_now_settings u_X_now_stake u_X_now_rule_limit N_X_now_rule_cells o.1 o.2.1 o.2.2.1 v_X_now_rule_width v_X_now_rule_size a_X_now_rule_cells o.2.2.2) none) (o : Int32 × Int32 × Int32 × (Nat → Int32)) (hg : g_X8_parseLevel N_X_now_rule_cells v_X_now_rule_width v_X_now_rule_size a_X_now_rule_cells x1 x2 rec v_X_rule_size v_X_rule_place v_X_rule_fault a_X_rule_row = some o) : zM l yX8_parseLevel (Cond.code yX8_parseLevel cX8_parseLevel 6 none :: wsL_law) (rmr_X8 (d + 1)) D (zTy cI cJ cZ cA) ga [.ref q_X_rule, .int x1, .int x2] (ws_X8_parseLevel cI cJ cZ cA q_X_rule q_X_now q_X_now_rule q_X_now_rule_cells q_X_rule_row u_X_rule_stack u_X_rule_known u_X_rule_isStale u_X_now_people u_X_now_talks u_X_now_dues u_X_now_sights u_X_now_settings u_X_now_stake u_X_now_rule_limit N_X_now_rule_cells v_X_rule_size v_X_rule_place v_X_rule_fault v_X_now_rule_width v_X_now_rule_size a_X_now_rule_cells a_X_rule_row) (ws_X8_parseLevel cI cJ cZ cA q_X_rule q_X_now q_X_now_rule q_X_now_rule_cells q_X_rule_row u_X_rule_stack u_X_rule_known u_X_rule_isStale u_X_now_people u_X_now_talks u_X_now_dues u_X_now_sights u_X_now_settings u_X_now_stake u_X_now_rule_limit N_X_now_rule_cells o.1 o.2.1 o.2.2.1 v_X_now_rule_width v_X_now_rule_size a_X_now_rule_cells o.2.2.2) none := by
  refine zenterV (own := RX8) (by decide) rfl rfl (Nat.le_of_ble_eq_true rfl) ?_
  intro p e s m args below meth c A ls Q S hA hK hG hl hP hD hS hret0
  have hx := S.1
  have hb := S.2.1
  have ht : ∀ w, w ∈ wsL_law → w.before args s = true := fun w h => S.2.2.2.2 w (List.mem_cons_of_mem _ h)
  have hret : ∀ (v_X_rule_size : Int32) (v_X_rule_place : Int32) (v_X_rule_fault : Int32) (a_X_rule_row : Nat → Int32), (some (v_X_rule_size, v_X_rule_place, v_X_rule_fault, a_X_rule_row) : Option (Int32 × Int32 × Int32 × (Nat → Int32))) = some o → ∀ (H : Heap) (locs : List Loc) (pc : Nat) (ls : Array Slot), va_P D vwCl (ws_X8_parseLevel cI cJ cZ cA q_X_rule q_X_now q_X_now_rule q_X_now_rule_cells q_X_rule_row u_X_rule_stack u_X_rule_known u_X_rule_isStale u_X_now_people u_X_now_talks u_X_now_dues u_X_now_sights u_X_now_settings u_X_now_stake u_X_now_rule_limit N_X_now_rule_cells v_X_rule_size v_X_rule_place v_X_rule_fault v_X_now_rule_width v_X_now_rule_size a_X_now_rule_cells a_X_rule_row) H → va_S A s.heap H locs → decode cX8_parseLevel pc = .ok (.return_, 1) → W p l e (rmr_X8 (d + 1)) s m args below meth c H locs 0 0 Q (F0 m pc ls []) := by
    intro v_X_rule_size v_X_rule_place v_X_rule_fault a_X_rule_row he; cases he; exact hret0
  have hl : lv_has ls 6 [(0, .ref q_X_rule), (1, .int x1), (2, .int x2)] := hl
  have B34 : ∀  (n : Nat) (x3 : Int32) (x4 : Int32) (v_X_rule_size : Int32) (v_X_rule_place : Int32) (v_X_rule_fault : Int32) (a_X_rule_row : Nat → Int32) (H : Heap) (locs : List Loc) (ls : Array Slot) (hl : lv_has ls 6 [(0, .ref q_X_rule), (1, .int x1), (2, .int x2), (3, .int x3), (4, .int x4)]) (hP : va_P D vwCl (ws_X8_parseLevel cI cJ cZ cA q_X_rule q_X_now q_X_now_rule q_X_now_rule_cells q_X_rule_row u_X_rule_stack u_X_rule_known u_X_rule_isStale u_X_now_people u_X_now_talks u_X_now_dues u_X_now_sights u_X_now_settings u_X_now_stake u_X_now_rule_limit N_X_now_rule_cells v_X_rule_size v_X_rule_place v_X_rule_fault v_X_now_rule_width v_X_now_rule_size a_X_now_rule_cells a_X_rule_row) H) (hD : va_D A (ws_X8_parseLevel cI cJ cZ cA q_X_rule q_X_now q_X_now_rule q_X_now_rule_cells q_X_rule_row u_X_rule_stack u_X_rule_known u_X_rule_isStale u_X_now_people u_X_now_talks u_X_now_dues u_X_now_sights u_X_now_settings u_X_now_stake u_X_now_rule_limit N_X_now_rule_cells v_X_rule_size v_X_rule_place v_X_rule_fault v_X_now_rule_width v_X_now_rule_size a_X_now_rule_cells a_X_rule_row)) (hS : va_S A s.heap H locs), g_X8_parseLevel_34 N_X_now_rule_cells v_X_now_rule_width v_X_now_rule_size a_X_now_rule_cells x1 x2 rec n x3 x4 v_X_rule_size v_X_rule_place v_X_rule_fault a_X_rule_row = some o → W p l e (rmr_X8 (d + 1)) s m args below meth c H locs 0 0 Q (F0 m 34 ls []) := by
    intro  n
    induction n with
    | zero => intro x3 x4 v_X_rule_size v_X_rule_place v_X_rule_fault a_X_rule_row H locs ls hl hP hD hS hg; exact nomatch (show (none : Option (Int32 × Int32 × Int32 × (Nat → Int32))) = some o from hg)
    | succ n ih =>
      intro x3 x4 v_X_rule_size v_X_rule_place v_X_rule_fault a_X_rule_row H locs ls hl hP hD hS hg
      have hg : g_X8_parseLevel_34b N_X_now_rule_cells v_X_now_rule_width v_X_now_rule_size a_X_now_rule_cells x1 x2 rec (g_X8_parseLevel_34 N_X_now_rule_cells v_X_now_rule_width v_X_now_rule_size a_X_now_rule_cells x1 x2 rec n) x3 x4 v_X_rule_size v_X_rule_place v_X_rule_fault a_X_rule_row = some o := hg
      refine lv_iload hx hb dX8_parseLevel_34 (lv_at hl 4 rfl) ?_
      refine lv_iload_n hx hb dX8_parseLevel_36 rfl (lv_at hl 3 rfl) ?_
      refine lv_icmp_ge (tgt := 96) hx hb dX8_parseLevel_37 (by decide) (fun h37 => ?_) (fun h37 => ?_)
      · have hg := zp hg h37
        exact hret v_X_rule_size v_X_rule_place v_X_rule_fault a_X_rule_row hg _ _ _ _ hP hS dX8_parseLevel_96
      · have hg := zn hg h37
        refine lv_aload_n hx hb dX8_parseLevel_40 rfl (lv_at hl 0 rfl) ?_
        refine zget (C := RX8) (T := TX8) (N := 8) S hK hP 0 rfl rfl 6 (Nat.le_of_ble_eq_true rfl) zf_8 zw_539 rfl dX8_parseLevel_41 ?_
        refine lv_iconst (v := (-1)) hx hb dX8_parseLevel_44 (by decide) ?_
        refine lv_icmp_ne (tgt := 96) hx hb dX8_parseLevel_45 (by decide) (fun h45 => ?_) (fun h45 => ?_)
        · have hg := zn hg h45
          exact hret v_X_rule_size v_X_rule_place v_X_rule_fault a_X_rule_row hg _ _ _ _ hP hS dX8_parseLevel_96
        · have hg := zp hg h45
          refine lv_aload_n hx hb dX8_parseLevel_48 rfl (lv_at hl 0 rfl) ?_
          obtain ⟨v3, hc4, hg⟩ := zbd hg
          refine zcallV (rest := []) S (c_X8_ahead l D cI cJ cZ cA ga q_X_rule q_X_now q_X_now_rule q_X_now_rule_cells (.ref q_X_rule_row) u_X_rule_stack u_X_rule_known (.int v_X_rule_size) (.int v_X_rule_fault) u_X_rule_isStale u_X_now_people u_X_now_talks u_X_now_dues u_X_now_sights u_X_now_settings u_X_now_stake u_X_now_rule_limit N_X_now_rule_cells v_X_rule_place v_X_now_rule_width v_X_now_rule_size a_X_now_rule_cells v3 hc4) (zgV zw_547 zw_548 zw_549 zw_35 zw_550) rfl hd_X8_ahead ⟨rfl, rfl⟩ ⟨by simp only [rm_X8_ahead, rmr_X8]; omega, by simp only [rm_X8_ahead, rmr_X8]; omega⟩ 0 8 rfl rfl rfl hl.1 rfl (Nat.le_of_ble_eq_true rfl) dX8_parseLevel_49 hP hD hS hA hK hG (isC := [0, 1, 2, 3]) rfl (by decide +kernel) rfl ⟨Nat.zero_le _, Nat.zero_le _⟩ (pl := [some 0, some 1, some 2, some 3, none]) (nw := 5) rfl (by decide +kernel) (w2 := (ws_X8_parseLevel cI cJ cZ cA q_X_rule q_X_now q_X_now_rule q_X_now_rule_cells q_X_rule_row u_X_rule_stack u_X_rule_known u_X_rule_isStale u_X_now_people u_X_now_talks u_X_now_dues u_X_now_sights u_X_now_settings u_X_now_stake u_X_now_rule_limit N_X_now_rule_cells v_X_rule_size v3.2 v_X_rule_fault v_X_now_rule_width v_X_now_rule_size a_X_now_rule_cells a_X_rule_row)) rfl (st1 := [.int v3.1]) rfl (fun H locs hP hD hS => ?_)
          obtain ⟨v5, hc6, hg⟩ := zbd hg
          refine zcallS (rest := []) S (c_X8_rankOf l D cI cJ cZ cA ga v3.1 v5 hc6) (zgS zw_554 zw_555 zw_35 zw_556) rfl hd_X8_rankOf ⟨rfl, rfl⟩ ⟨by simp only [rm_X8_rankOf, rmr_X8]; omega, by simp only [rm_X8_rankOf, rmr_X8]; omega⟩ rfl hl.1 rfl (Nat.le_of_ble_eq_true rfl) dX8_parseLevel_52 hP hD hS hA hK hG (isC := []) rfl (by decide +kernel) rfl ⟨Nat.zero_le _, Nat.zero_le _⟩ (pl := [none, none, none, none, none]) (nw := 5) rfl (by decide +kernel) (w2 := (ws_X8_parseLevel cI cJ cZ cA q_X_rule q_X_now q_X_now_rule q_X_now_rule_cells q_X_rule_row u_X_rule_stack u_X_rule_known u_X_rule_isStale u_X_now_people u_X_now_talks u_X_now_dues u_X_now_sights u_X_now_settings u_X_now_stake u_X_now_rule_limit N_X_now_rule_cells v_X_rule_size v3.2 v_X_rule_fault v_X_now_rule_width v_X_now_rule_size a_X_now_rule_cells a_X_rule_row)) rfl (st1 := [.int v5]) rfl (fun H locs hP hD hS => ?_)
          refine lv_iload_n hx hb dX8_parseLevel_55 rfl (lv_at hl 1 rfl) ?_
          refine lv_icmp_ne (tgt := 96) hx hb dX8_parseLevel_56 (by decide) (fun h56 => ?_) (fun h56 => ?_)
          · have hg := zn hg h56
            exact hret v_X_rule_size v3.2 v_X_rule_fault a_X_rule_row hg _ _ _ _ hP hS dX8_parseLevel_96
          · have hg := zp hg h56
            refine lv_aload_n hx hb dX8_parseLevel_59 rfl (lv_at hl 0 rfl) ?_
            obtain ⟨v7, hc8, hg⟩ := zbd hg
            refine zcallV (rest := []) S (c_X8_ahead l D cI cJ cZ cA ga q_X_rule q_X_now q_X_now_rule q_X_now_rule_cells (.ref q_X_rule_row) u_X_rule_stack u_X_rule_known (.int v_X_rule_size) (.int v_X_rule_fault) u_X_rule_isStale u_X_now_people u_X_now_talks u_X_now_dues u_X_now_sights u_X_now_settings u_X_now_stake u_X_now_rule_limit N_X_now_rule_cells v3.2 v_X_now_rule_width v_X_now_rule_size a_X_now_rule_cells v7 hc8) (zgV zw_547 zw_548 zw_549 zw_35 zw_550) rfl hd_X8_ahead ⟨rfl, rfl⟩ ⟨by simp only [rm_X8_ahead, rmr_X8]; omega, by simp only [rm_X8_ahead, rmr_X8]; omega⟩ 0 8 rfl rfl rfl hl.1 rfl (Nat.le_of_ble_eq_true rfl) dX8_parseLevel_60 hP hD hS hA hK hG (isC := [0, 1, 2, 3]) rfl (by decide +kernel) rfl ⟨Nat.zero_le _, Nat.zero_le _⟩ (pl := [some 0, some 1, some 2, some 3, none]) (nw := 5) rfl (by decide +kernel) (w2 := (ws_X8_parseLevel cI cJ cZ cA q_X_rule q_X_now q_X_now_rule q_X_now_rule_cells q_X_rule_row u_X_rule_stack u_X_rule_known u_X_rule_isStale u_X_now_people u_X_now_talks u_X_now_dues u_X_now_sights u_X_now_settings u_X_now_stake u_X_now_rule_limit N_X_now_rule_cells v_X_rule_size v7.2 v_X_rule_fault v_X_now_rule_width v_X_now_rule_size a_X_now_rule_cells a_X_rule_row)) rfl (st1 := [.int v7.1]) rfl (fun H locs hP hD hS => ?_)
            refine lv_istore (lv' := [(5, .int v7.1), (0, .ref q_X_rule), (1, .int x1), (2, .int x2), (3, .int x3), (4, .int x4)]) hx hb dX8_parseLevel_63 hl (by decide) rfl (fun ls hl => ?_)
            refine lv_aload_n hx hb dX8_parseLevel_65 rfl (lv_at hl 1 rfl) ?_
            refine lv_dup hx hb dX8_parseLevel_66 rfl ?_
            refine zget (C := RX8) (T := TX8) (N := 8) S hK hP 0 rfl rfl 5 (Nat.le_of_ble_eq_true rfl) zf_8 zw_538 rfl dX8_parseLevel_67 ?_
            refine lv_iconst (v := 1) hx hb dX8_parseLevel_70 (by decide) ?_
            refine lv_iadd hx hb dX8_parseLevel_71 ?_
            refine zputf (C := RX8) (T := TX8) (N := 8) (ty := .int) S hK hP hD hS 0 rfl rfl 5 (Nat.le_of_ble_eq_true rfl) zf_8 tyX8 tyX8_ok nmX8 zw_538 rfl (by decide +kernel) rfl rfl (Nat.le_of_ble_eq_true rfl) dX8_parseLevel_72 (w2 := (ws_X8_parseLevel cI cJ cZ cA q_X_rule q_X_now q_X_now_rule q_X_now_rule_cells q_X_rule_row u_X_rule_stack u_X_rule_known u_X_rule_isStale u_X_now_people u_X_now_talks u_X_now_dues u_X_now_sights u_X_now_settings u_X_now_stake u_X_now_rule_limit N_X_now_rule_cells v_X_rule_size (v7.2 + 1) v_X_rule_fault v_X_now_rule_width v_X_now_rule_size a_X_now_rule_cells a_X_rule_row)) rfl (fun H locs hP hD hS => ?_)
            refine lv_aload_n hx hb dX8_parseLevel_75 rfl (lv_at hl 1 rfl) ?_
            refine lv_iload_n hx hb dX8_parseLevel_76 rfl (lv_at hl 2 rfl) ?_
            refine lv_iconst (v := 1) hx hb dX8_parseLevel_77 (by decide) ?_
            refine lv_iadd hx hb dX8_parseLevel_78 ?_
            refine lv_iload_n hx hb dX8_parseLevel_79 rfl (lv_at hl 3 rfl) ?_
            obtain ⟨v9, hc10, hg⟩ := zbd hg
            refine zcallV (rest := []) S (hrec0 (x1 + 1) x2 v_X_rule_size (v7.2 + 1) v_X_rule_fault a_X_rule_row v9 hc10) (zgV zw_540 zw_541 zw_542 zw_35 zw_543) rfl hd_X8_parseLevel ⟨rfl, rfl⟩ ⟨by simp only [rmr_X8]; omega, by simp only [rmr_X8]; omega⟩ 0 8 rfl rfl rfl hl.1 rfl (Nat.le_of_ble_eq_true rfl) dX8_parseLevel_80 hP hD hS hA hK hG (isC := [0, 1, 2, 3, 4]) rfl (by decide +kernel) rfl ⟨Nat.zero_le _, Nat.zero_le _⟩ (pl := [some 0, some 1, some 2, some 3, some 4]) (nw := 5) rfl (by decide +kernel) (w2 := (ws_X8_parseLevel cI cJ cZ cA q_X_rule q_X_now q_X_now_rule q_X_now_rule_cells q_X_rule_row u_X_rule_stack u_X_rule_known u_X_rule_isStale u_X_now_people u_X_now_talks u_X_now_dues u_X_now_sights u_X_now_settings u_X_now_stake u_X_now_rule_limit N_X_now_rule_cells v9.1 v9.2.1 v9.2.2.1 v_X_now_rule_width v_X_now_rule_size a_X_now_rule_cells v9.2.2.2)) rfl (st1 := []) rfl (fun H locs hP hD hS => ?_)
            refine lv_aload_n hx hb dX8_parseLevel_83 rfl (lv_at hl 1 rfl) ?_
            refine lv_iload hx hb dX8_parseLevel_84 (lv_at hl 0 rfl) ?_
            refine lv_ineg hx hb dX8_parseLevel_86 ?_
            obtain ⟨v11, hc12, hg⟩ := zbd hg
            refine zcallV (rest := []) S (c_X8_emit l D cI cJ cZ cA ga q_X_rule q_X_rule_row (.ref q_X_now) u_X_rule_stack u_X_rule_known (.int v9.2.1) u_X_rule_isStale v9.1 v9.2.2.1 v9.2.2.2 (-v7.1) v11 hc12) (zgV zw_557 zw_558 zw_559 zw_35 zw_560) rfl hd_X8_emit ⟨rfl, rfl⟩ ⟨by simp only [rm_X8_emit, rmr_X8]; omega, by simp only [rm_X8_emit, rmr_X8]; omega⟩ 0 8 rfl rfl rfl hl.1 rfl (Nat.le_of_ble_eq_true rfl) dX8_parseLevel_87 hP hD hS hA hK hG (isC := [0, 4]) rfl (by decide +kernel) rfl ⟨Nat.zero_le _, Nat.zero_le _⟩ (pl := [some 0, none, none, none, some 1]) (nw := 5) rfl (by decide +kernel) (w2 := (ws_X8_parseLevel cI cJ cZ cA q_X_rule q_X_now q_X_now_rule q_X_now_rule_cells q_X_rule_row u_X_rule_stack u_X_rule_known u_X_rule_isStale u_X_now_people u_X_now_talks u_X_now_dues u_X_now_sights u_X_now_settings u_X_now_stake u_X_now_rule_limit N_X_now_rule_cells v11.1 v9.2.1 v9.2.2.1 v_X_now_rule_width v_X_now_rule_size a_X_now_rule_cells v11.2)) rfl (st1 := []) rfl (fun H locs hP hD hS => ?_)
            refine lv_iinc (k := 5) (v := x4 + 1) (lv' := [(4, .int (x4 + 1)), (5, .int v7.1), (0, .ref q_X_rule), (1, .int x1), (2, .int x2), (3, .int x3)]) hx hb dX8_parseLevel_90 hl rfl (zinc (by decide)) (by decide) rfl (fun ls hl => ?_)
            refine lv_goto (tgt := 34) hx hb dX8_parseLevel_93 (by decide) ?_
            exact ih x3 (x4 + 1) v11.1 v9.2.1 v9.2.2.1 v11.2 _ _ _ (lv_sub hl [2, 3, 4, 5, 0] rfl) hP hD hS hg
  have B30 : ∀ (t0 : Int32) (v_X_rule_size : Int32) (v_X_rule_place : Int32) (v_X_rule_fault : Int32) (a_X_rule_row : Nat → Int32) (H : Heap) (locs : List Loc) (ls : Array Slot) (hl : lv_has ls 6 [(0, .ref q_X_rule), (1, .int x1), (2, .int x2)]) (hP : va_P D vwCl (ws_X8_parseLevel cI cJ cZ cA q_X_rule q_X_now q_X_now_rule q_X_now_rule_cells q_X_rule_row u_X_rule_stack u_X_rule_known u_X_rule_isStale u_X_now_people u_X_now_talks u_X_now_dues u_X_now_sights u_X_now_settings u_X_now_stake u_X_now_rule_limit N_X_now_rule_cells v_X_rule_size v_X_rule_place v_X_rule_fault v_X_now_rule_width v_X_now_rule_size a_X_now_rule_cells a_X_rule_row) H) (hD : va_D A (ws_X8_parseLevel cI cJ cZ cA q_X_rule q_X_now q_X_now_rule q_X_now_rule_cells q_X_rule_row u_X_rule_stack u_X_rule_known u_X_rule_isStale u_X_now_people u_X_now_talks u_X_now_dues u_X_now_sights u_X_now_settings u_X_now_stake u_X_now_rule_limit N_X_now_rule_cells v_X_rule_size v_X_rule_place v_X_rule_fault v_X_now_rule_width v_X_now_rule_size a_X_now_rule_cells a_X_rule_row)) (hS : va_S A s.heap H locs), g_X8_parseLevel_30 N_X_now_rule_cells v_X_now_rule_width v_X_now_rule_size a_X_now_rule_cells x1 x2 rec t0 v_X_rule_size v_X_rule_place v_X_rule_fault a_X_rule_row = some o → W p l e (rmr_X8 (d + 1)) s m args below meth c H locs 0 0 Q (F0 m 30 ls [.int t0]) := by
    intro  t0 v_X_rule_size v_X_rule_place v_X_rule_fault a_X_rule_row H locs ls hl hP hD hS hg
    refine lv_istore_n (lv' := [(3, .int t0), (0, .ref q_X_rule), (1, .int x1), (2, .int x2)]) hx hb dX8_parseLevel_30 rfl hl (by decide) rfl (fun ls hl => ?_)
    refine lv_iconst (v := 0) hx hb dX8_parseLevel_31 (by decide) ?_
    refine lv_istore (lv' := [(4, .int 0), (3, .int t0), (0, .ref q_X_rule), (1, .int x1), (2, .int x2)]) hx hb dX8_parseLevel_32 hl (by decide) rfl (fun ls hl => ?_)
    exact B34 zF t0 0 v_X_rule_size v_X_rule_place v_X_rule_fault a_X_rule_row _ _ _ (lv_sub hl [2, 3, 4, 1, 0] rfl) hP hD hS hg
  refine lv_iload_n hx hb dX8_parseLevel_0 rfl (lv_at hl 1 rfl) ?_
  refine lv_iconst (v := 4) hx hb dX8_parseLevel_1 (by decide) ?_
  refine lv_icmp_le (tgt := 11) hx hb dX8_parseLevel_2 (by decide) (fun h2 => ?_) (fun h2 => ?_)
  · have hg := zp hg h2
    refine lv_aload_n hx hb dX8_parseLevel_11 rfl (lv_at hl 0 rfl) ?_
    refine lv_iload_n hx hb dX8_parseLevel_12 rfl (lv_at hl 1 rfl) ?_
    refine lv_iconst (v := 1) hx hb dX8_parseLevel_13 (by decide) ?_
    refine lv_iadd hx hb dX8_parseLevel_14 ?_
    refine lv_iload_n hx hb dX8_parseLevel_15 rfl (lv_at hl 2 rfl) ?_
    obtain ⟨v1, hc2, hg⟩ := zbd hg
    refine zcallV (rest := []) S (hrec0 (x1 + 1) x2 v_X_rule_size v_X_rule_place v_X_rule_fault a_X_rule_row v1 hc2) (zgV zw_540 zw_541 zw_542 zw_35 zw_543) rfl hd_X8_parseLevel ⟨rfl, rfl⟩ ⟨by simp only [rmr_X8]; omega, by simp only [rmr_X8]; omega⟩ 0 8 rfl rfl rfl hl.1 rfl (Nat.le_of_ble_eq_true rfl) dX8_parseLevel_16 hP hD hS hA hK hG (isC := [0, 1, 2, 3, 4]) rfl (by decide +kernel) rfl ⟨Nat.zero_le _, Nat.zero_le _⟩ (pl := [some 0, some 1, some 2, some 3, some 4]) (nw := 5) rfl (by decide +kernel) (w2 := (ws_X8_parseLevel cI cJ cZ cA q_X_rule q_X_now q_X_now_rule q_X_now_rule_cells q_X_rule_row u_X_rule_stack u_X_rule_known u_X_rule_isStale u_X_now_people u_X_now_talks u_X_now_dues u_X_now_sights u_X_now_settings u_X_now_stake u_X_now_rule_limit N_X_now_rule_cells v1.1 v1.2.1 v1.2.2.1 v_X_now_rule_width v_X_now_rule_size a_X_now_rule_cells v1.2.2.2)) rfl (st1 := []) rfl (fun H locs hP hD hS => ?_)
    refine lv_iload_n hx hb dX8_parseLevel_19 rfl (lv_at hl 1 rfl) ?_
    refine lv_iconst (v := 2) hx hb dX8_parseLevel_20 (by decide) ?_
    refine lv_icmp_ne (tgt := 28) hx hb dX8_parseLevel_21 (by decide) (fun h21 => ?_) (fun h21 => ?_)
    · have hg := zn hg h21
      refine lv_bipush (v := 40) hx hb dX8_parseLevel_28 (by decide) ?_
      exact B30 40 v1.1 v1.2.1 v1.2.2.1 v1.2.2.2 _ _ _ hl hP hD hS hg
    · have hg := zp hg h21
      refine lv_iconst (v := 1) hx hb dX8_parseLevel_24 (by decide) ?_
      refine lv_goto (tgt := 30) hx hb dX8_parseLevel_25 (by decide) ?_
      exact B30 1 v1.1 v1.2.1 v1.2.2.1 v1.2.2.2 _ _ _ hl hP hD hS hg
  · have hg := zn hg h2
    refine lv_aload_n hx hb dX8_parseLevel_5 rfl (lv_at hl 0 rfl) ?_
    refine lv_iload_n hx hb dX8_parseLevel_6 rfl (lv_at hl 2 rfl) ?_
    obtain ⟨v13, hc14, hg⟩ := zbd hg
    refine zcallV (rest := []) S (hrec1 x2 v_X_rule_size v_X_rule_place v_X_rule_fault a_X_rule_row v13 hc14) (zgV zw_544 zw_545 zw_546 zw_35 zw_576) rfl hd_X8_parseUnit ⟨rfl, rfl⟩ ⟨by simp only [rmr_X8]; omega, by simp only [rmr_X8]; omega⟩ 0 8 rfl rfl rfl hl.1 rfl (Nat.le_of_ble_eq_true rfl) dX8_parseLevel_7 hP hD hS hA hK hG (isC := [0, 1, 2, 3, 4]) rfl (by decide +kernel) rfl ⟨Nat.zero_le _, Nat.zero_le _⟩ (pl := [some 0, some 1, some 2, some 3, some 4]) (nw := 5) rfl (by decide +kernel) (w2 := (ws_X8_parseLevel cI cJ cZ cA q_X_rule q_X_now q_X_now_rule q_X_now_rule_cells q_X_rule_row u_X_rule_stack u_X_rule_known u_X_rule_isStale u_X_now_people u_X_now_talks u_X_now_dues u_X_now_sights u_X_now_settings u_X_now_stake u_X_now_rule_limit N_X_now_rule_cells v13.1 v13.2.1 v13.2.2.1 v_X_now_rule_width v_X_now_rule_size a_X_now_rule_cells v13.2.2.2)) rfl (st1 := []) rfl (fun H locs hP hD hS => ?_)
    exact hret v13.1 v13.2.1 v13.2.2.1 v13.2.2.2 hg _ _ _ _ hP hS dX8_parseLevel_10

/-! SpokenClock$Rule.parseUnit(I)V -/
abbrev ws_X8_parseUnit (cI cJ cZ cA : ClassId) (q_X_rule q_X_now q_X_now_rule q_X_now_rule_cells q_X_rule_row : Nat) (u_X_rule_stack : Value) (u_X_rule_known : Value) (u_X_rule_isStale : Value) (u_X_now_people : Value) (u_X_now_talks : Value) (u_X_now_dues : Value) (u_X_now_sights : Value) (u_X_now_settings : Value) (u_X_now_stake : Value) (u_X_now_rule_limit : Value) (N_X_now_rule_cells : Nat) (v_X_rule_size : Int32) (v_X_rule_place : Int32) (v_X_rule_fault : Int32) (v_X_now_rule_width : Int32) (v_X_now_rule_size : Int32) (a_X_now_rule_cells : Nat → Int32) (a_X_rule_row : Nat → Int32) : va_W := [(q_X_rule, .inr (8, [.ref q_X_now, .ref q_X_rule_row, u_X_rule_stack, u_X_rule_known, .int v_X_rule_size, .int v_X_rule_place, .int v_X_rule_fault, u_X_rule_isStale])), (q_X_now, .inr (9, [u_X_now_people, u_X_now_talks, u_X_now_dues, u_X_now_sights, .ref q_X_now_rule, u_X_now_settings, u_X_now_stake])), (q_X_now_rule, .inr (7, [.int v_X_now_rule_width, u_X_now_rule_limit, .ref q_X_now_rule_cells, .int v_X_now_rule_size])), (q_X_now_rule_cells, .inl (cI, N_X_now_rule_cells, .inl a_X_now_rule_cells)), (q_X_rule_row, .inl (cI, 40, .inl a_X_rule_row))]
def g_X8_parseUnit_107 (N_X_now_rule_cells : Nat) (v_X_now_rule_width : Int32) (v_X_now_rule_size : Int32) (a_X_now_rule_cells : Nat → Int32) (x1 : Int32) (rec : Nat → Int32 → Int32 → Int32 → Int32 → Int32 → (Nat → Int32) → Option (Int32 × Int32 × Int32 × (Nat → Int32))) (k60 : Int32 → Int32 → Int32 → Int32 → Int32 → (Nat → Int32) → Option (Int32 × Int32 × Int32 × (Nat → Int32))) (x2 : Int32) (x4 : Int32) (v_X_rule_size : Int32) (v_X_rule_place : Int32) (v_X_rule_fault : Int32) (a_X_rule_row : Nat → Int32) : Option (Int32 × Int32 × Int32 × (Nat → Int32)) :=
  k60 x2 (x4 + (-1)) v_X_rule_size v_X_rule_place v_X_rule_fault a_X_rule_row
def g_X8_parseUnit_104 (N_X_now_rule_cells : Nat) (v_X_now_rule_width : Int32) (v_X_now_rule_size : Int32) (a_X_now_rule_cells : Nat → Int32) (x1 : Int32) (rec : Nat → Int32 → Int32 → Int32 → Int32 → Int32 → (Nat → Int32) → Option (Int32 × Int32 × Int32 × (Nat → Int32))) (k60 : Int32 → Int32 → Int32 → Int32 → Int32 → (Nat → Int32) → Option (Int32 × Int32 × Int32 × (Nat → Int32))) (x2 : Int32) (x4 : Int32) (t1 : Int32) (v_X_rule_size : Int32) (v_X_rule_place : Int32) (v_X_rule_fault : Int32) (a_X_rule_row : Nat → Int32) : Option (Int32 × Int32 × Int32 × (Nat → Int32)) :=
  (g_X8_emit v_X_rule_fault t1 v_X_rule_size a_X_rule_row).bind fun v9 =>
  g_X8_parseUnit_107 N_X_now_rule_cells v_X_now_rule_width v_X_now_rule_size a_X_now_rule_cells x1 rec k60 x2 x4 v9.1 v_X_rule_place v_X_rule_fault v9.2
def g_X8_parseUnit_60b (N_X_now_rule_cells : Nat) (v_X_now_rule_width : Int32) (v_X_now_rule_size : Int32) (a_X_now_rule_cells : Nat → Int32) (x1 : Int32) (rec : Nat → Int32 → Int32 → Int32 → Int32 → Int32 → (Nat → Int32) → Option (Int32 × Int32 × Int32 × (Nat → Int32))) (k60 : Int32 → Int32 → Int32 → Int32 → Int32 → (Nat → Int32) → Option (Int32 × Int32 × Int32 × (Nat → Int32))) (x2 : Int32) (x4 : Int32) (v_X_rule_size : Int32) (v_X_rule_place : Int32) (v_X_rule_fault : Int32) (a_X_rule_row : Nat → Int32) : Option (Int32 × Int32 × Int32 × (Nat → Int32)) :=
  if x4 < x2 then (
    some (v_X_rule_size, v_X_rule_place, v_X_rule_fault, a_X_rule_row)
  ) else (
    (g_X7_at N_X_now_rule_cells v_X_now_rule_width v_X_now_rule_size a_X_now_rule_cells x4 0).bind fun v5 =>
    (g_X8_isPrefix v5).bind fun v7 =>
    if v7 = 0 then (
      g_X8_parseUnit_107 N_X_now_rule_cells v_X_now_rule_width v_X_now_rule_size a_X_now_rule_cells x1 rec k60 x2 x4 v_X_rule_size v_X_rule_place v_X_rule_fault a_X_rule_row
    ) else (
      if v5 = 33 then (
        g_X8_parseUnit_104 N_X_now_rule_cells v_X_now_rule_width v_X_now_rule_size a_X_now_rule_cells x1 rec k60 x2 x4 (-33) v_X_rule_size v_X_rule_place v_X_rule_fault a_X_rule_row
      ) else (
        g_X8_parseUnit_104 N_X_now_rule_cells v_X_now_rule_width v_X_now_rule_size a_X_now_rule_cells x1 rec k60 x2 x4 (-126) v_X_rule_size v_X_rule_place v_X_rule_fault a_X_rule_row
      )
    )
  )
def g_X8_parseUnit_60 (N_X_now_rule_cells : Nat) (v_X_now_rule_width : Int32) (v_X_now_rule_size : Int32) (a_X_now_rule_cells : Nat → Int32) (x1 : Int32) (rec : Nat → Int32 → Int32 → Int32 → Int32 → Int32 → (Nat → Int32) → Option (Int32 × Int32 × Int32 × (Nat → Int32))) : Nat → Int32 → Int32 → Int32 → Int32 → Int32 → (Nat → Int32) → Option (Int32 × Int32 × Int32 × (Nat → Int32))
  | 0, _, _, _, _, _, _ => none
  | n + 1, x2, x4, v_X_rule_size, v_X_rule_place, v_X_rule_fault, a_X_rule_row => g_X8_parseUnit_60b N_X_now_rule_cells v_X_now_rule_width v_X_now_rule_size a_X_now_rule_cells x1 rec (g_X8_parseUnit_60 N_X_now_rule_cells v_X_now_rule_width v_X_now_rule_size a_X_now_rule_cells x1 rec n) x2 x4 v_X_rule_size v_X_rule_place v_X_rule_fault a_X_rule_row
def g_X8_parseUnit_45 (N_X_now_rule_cells : Nat) (v_X_now_rule_width : Int32) (v_X_now_rule_size : Int32) (a_X_now_rule_cells : Nat → Int32) (x1 : Int32) (rec : Nat → Int32 → Int32 → Int32 → Int32 → Int32 → (Nat → Int32) → Option (Int32 × Int32 × Int32 × (Nat → Int32))) (x2 : Int32) (v_X_rule_size : Int32) (v_X_rule_place : Int32) (v_X_rule_fault : Int32) (a_X_rule_row : Nat → Int32) : Option (Int32 × Int32 × Int32 × (Nat → Int32)) :=
  (rec 2 x1 0 v_X_rule_size v_X_rule_place v_X_rule_fault a_X_rule_row).bind fun v3 =>
  g_X8_parseUnit_60 N_X_now_rule_cells v_X_now_rule_width v_X_now_rule_size a_X_now_rule_cells x1 rec zF x2 (v_X_rule_place - 1) v3.1 v3.2.1 v3.2.2.1 v3.2.2.2
def g_X8_parseUnit_5b (N_X_now_rule_cells : Nat) (v_X_now_rule_width : Int32) (v_X_now_rule_size : Int32) (a_X_now_rule_cells : Nat → Int32) (x1 : Int32) (rec : Nat → Int32 → Int32 → Int32 → Int32 → Int32 → (Nat → Int32) → Option (Int32 × Int32 × Int32 × (Nat → Int32))) (k5 : Int32 → Int32 → Int32 → Int32 → (Nat → Int32) → Option (Int32 × Int32 × Int32 × (Nat → Int32))) (x2 : Int32) (v_X_rule_size : Int32) (v_X_rule_place : Int32) (v_X_rule_fault : Int32) (a_X_rule_row : Nat → Int32) : Option (Int32 × Int32 × Int32 × (Nat → Int32)) :=
  (g_X7_size v_X_now_rule_size).bind fun v1 =>
  if v1 ≤ v_X_rule_place then (
    g_X8_parseUnit_45 N_X_now_rule_cells v_X_now_rule_width v_X_now_rule_size a_X_now_rule_cells x1 rec x2 v_X_rule_size v_X_rule_place v_X_rule_fault a_X_rule_row
  ) else (
    (g_X8_ahead N_X_now_rule_cells v_X_now_rule_width v_X_now_rule_size a_X_now_rule_cells v_X_rule_place).bind fun v11 =>
    (g_X8_isPrefix v11.1).bind fun v13 =>
    if v13 = 0 then (
      g_X8_parseUnit_45 N_X_now_rule_cells v_X_now_rule_width v_X_now_rule_size a_X_now_rule_cells x1 rec x2 v_X_rule_size v11.2 v_X_rule_fault a_X_rule_row
    ) else (
      k5 x2 v_X_rule_size (v11.2 + 1) v_X_rule_fault a_X_rule_row
    )
  )
def g_X8_parseUnit_5 (N_X_now_rule_cells : Nat) (v_X_now_rule_width : Int32) (v_X_now_rule_size : Int32) (a_X_now_rule_cells : Nat → Int32) (x1 : Int32) (rec : Nat → Int32 → Int32 → Int32 → Int32 → Int32 → (Nat → Int32) → Option (Int32 × Int32 × Int32 × (Nat → Int32))) : Nat → Int32 → Int32 → Int32 → Int32 → (Nat → Int32) → Option (Int32 × Int32 × Int32 × (Nat → Int32))
  | 0, _, _, _, _, _ => none
  | n + 1, x2, v_X_rule_size, v_X_rule_place, v_X_rule_fault, a_X_rule_row => g_X8_parseUnit_5b N_X_now_rule_cells v_X_now_rule_width v_X_now_rule_size a_X_now_rule_cells x1 rec (g_X8_parseUnit_5 N_X_now_rule_cells v_X_now_rule_width v_X_now_rule_size a_X_now_rule_cells x1 rec n) x2 v_X_rule_size v_X_rule_place v_X_rule_fault a_X_rule_row
def g_X8_parseUnit (N_X_now_rule_cells : Nat) (v_X_now_rule_width : Int32) (v_X_now_rule_size : Int32) (a_X_now_rule_cells : Nat → Int32) (x1 : Int32) (rec : Nat → Int32 → Int32 → Int32 → Int32 → Int32 → (Nat → Int32) → Option (Int32 × Int32 × Int32 × (Nat → Int32))) (v_X_rule_size : Int32) (v_X_rule_place : Int32) (v_X_rule_fault : Int32) (a_X_rule_row : Nat → Int32) : Option (Int32 × Int32 × Int32 × (Nat → Int32)) :=
  g_X8_parseUnit_5 N_X_now_rule_cells v_X_now_rule_width v_X_now_rule_size a_X_now_rule_cells x1 rec zF v_X_rule_place v_X_rule_size v_X_rule_place v_X_rule_fault a_X_rule_row
set_option maxHeartbeats 4000000 in
set_option maxRecDepth 100000 in
theorem c_X8_parseUnit (l : Launch) (D : va_G) (cI cJ cZ cA : ClassId) (ga : Nat → Nat) (q_X_rule q_X_now q_X_now_rule q_X_now_rule_cells q_X_rule_row : Nat) (u_X_rule_stack : Value) (u_X_rule_known : Value) (u_X_rule_isStale : Value) (u_X_now_people : Value) (u_X_now_talks : Value) (u_X_now_dues : Value) (u_X_now_sights : Value) (u_X_now_settings : Value) (u_X_now_stake : Value) (u_X_now_rule_limit : Value) (N_X_now_rule_cells : Nat) (v_X_rule_size : Int32) (v_X_rule_place : Int32) (v_X_rule_fault : Int32) (v_X_now_rule_width : Int32) (v_X_now_rule_size : Int32) (a_X_now_rule_cells : Nat → Int32) (a_X_rule_row : Nat → Int32) (x1 : Int32) (d : Nat) (rec : Nat → Int32 → Int32 → Int32 → Int32 → Int32 → (Nat → Int32) → Option (Int32 × Int32 × Int32 × (Nat → Int32))) (hrec0 : ∀ (a9 b9 : Int32) (v_X_rule_size : Int32) (v_X_rule_place : Int32) (v_X_rule_fault : Int32) (a_X_rule_row : Nat → Int32) (o : Int32 × Int32 × Int32 × (Nat → Int32)), rec 0 a9 b9 v_X_rule_size v_X_rule_place v_X_rule_fault a_X_rule_row = some o → zM l yX8_parseLevel (Cond.code yX8_parseLevel cX8_parseLevel 6 none :: wsL_law) (rmr_X8 d) D (zTy cI cJ cZ cA) ga [.ref q_X_rule, .int a9, .int b9] (ws_X8_parseUnit cI cJ cZ cA q_X_rule q_X_now q_X_now_rule q_X_now_rule_cells q_X_rule_row u_X_rule_stack u_X_rule_known u_X_rule_isStale u_X_now_people u_X_now_talks u_X_now_dues u_X_now_sights u_X_now_settings u_X_now_stake u_X_now_rule_limit N_X_now_rule_cells v_X_rule_size v_X_rule_place v_X_rule_fault v_X_now_rule_width v_X_now_rule_size a_X_now_rule_cells a_X_rule_row) (ws_X8_parseUnit cI cJ cZ cA q_X_rule q_X_now q_X_now_rule q_X_now_rule_cells q_X_rule_row u_X_rule_stack u_X_rule_known u_X_rule_isStale u_X_now_people u_X_now_talks u_X_now_dues u_X_now_sights u_X_now_settings u_X_now_stake u_X_now_rule_limit N_X_now_rule_cells o.1 o.2.1 o.2.2.1 v_X_now_rule_width v_X_now_rule_size a_X_now_rule_cells o.2.2.2) none) (hrec1 : ∀ (a9 : Int32) (v_X_rule_size : Int32) (v_X_rule_place : Int32) (v_X_rule_fault : Int32) (a_X_rule_row : Nat → Int32) (o : Int32 × Int32 × Int32 × (Nat → Int32)), rec 1 a9 0 v_X_rule_size v_X_rule_place v_X_rule_fault a_X_rule_row = some o → zM l yX8_parseUnit (Cond.code yX8_parseUnit cX8_parseUnit 6 none :: wsL_law) (rmr_X8 d) D (zTy cI cJ cZ cA) ga [.ref q_X_rule, .int a9] (ws_X8_parseUnit cI cJ cZ cA q_X_rule q_X_now q_X_now_rule q_X_now_rule_cells q_X_rule_row u_X_rule_stack u_X_rule_known u_X_rule_isStale u_X_now_people u_X_now_talks u_X_now_dues u_X_now_sights u_X_now_settings u_X_now_stake u_X_now_rule_limit N_X_now_rule_cells v_X_rule_size v_X_rule_place v_X_rule_fault v_X_now_rule_width v_X_now_rule_size a_X_now_rule_cells a_X_rule_row) (ws_X8_parseUnit cI cJ cZ cA q_X_rule q_X_now q_X_now_rule q_X_now_rule_cells q_X_rule_row u_X_rule_stack u_X_rule_known u_X_rule_isStale u_X_now_people u_X_now_talks u_X_now_dues u_X_now_sights u_X_now_settings u_X_now_stake u_X_now_rule_limit N_X_now_rule_cells o.1 o.2.1 o.2.2.1 v_X_now_rule_width v_X_now_rule_size a_X_now_rule_cells o.2.2.2) none) (hrec2 : ∀ (a9 : Int32) (v_X_rule_size : Int32) (v_X_rule_place : Int32) (v_X_rule_fault : Int32) (a_X_rule_row : Nat → Int32) (o : Int32 × Int32 × Int32 × (Nat → Int32)), rec 2 a9 0 v_X_rule_size v_X_rule_place v_X_rule_fault a_X_rule_row = some o → zM l yX8_parseOperand (Cond.code yX8_parseOperand cX8_parseOperand 3 none :: wsL_law) (rmr_X8 d) D (zTy cI cJ cZ cA) ga [.ref q_X_rule, .int a9] (ws_X8_parseUnit cI cJ cZ cA q_X_rule q_X_now q_X_now_rule q_X_now_rule_cells q_X_rule_row u_X_rule_stack u_X_rule_known u_X_rule_isStale u_X_now_people u_X_now_talks u_X_now_dues u_X_now_sights u_X_now_settings u_X_now_stake u_X_now_rule_limit N_X_now_rule_cells v_X_rule_size v_X_rule_place v_X_rule_fault v_X_now_rule_width v_X_now_rule_size a_X_now_rule_cells a_X_rule_row) (ws_X8_parseUnit cI cJ cZ cA q_X_rule q_X_now q_X_now_rule q_X_now_rule_cells q_X_rule_row u_X_rule_stack u_X_rule_known u_X_rule_isStale u_X_now_people u_X_now_talks u_X_now_dues u_X_now_sights u_X_now_settings u_X_now_stake u_X_now_rule_limit N_X_now_rule_cells o.1 o.2.1 o.2.2.1 v_X_now_rule_width v_X_now_rule_size a_X_now_rule_cells o.2.2.2) none) (o : Int32 × Int32 × Int32 × (Nat → Int32)) (hg : g_X8_parseUnit N_X_now_rule_cells v_X_now_rule_width v_X_now_rule_size a_X_now_rule_cells x1 rec v_X_rule_size v_X_rule_place v_X_rule_fault a_X_rule_row = some o) : zM l yX8_parseUnit (Cond.code yX8_parseUnit cX8_parseUnit 6 none :: wsL_law) (rmr_X8 (d + 1)) D (zTy cI cJ cZ cA) ga [.ref q_X_rule, .int x1] (ws_X8_parseUnit cI cJ cZ cA q_X_rule q_X_now q_X_now_rule q_X_now_rule_cells q_X_rule_row u_X_rule_stack u_X_rule_known u_X_rule_isStale u_X_now_people u_X_now_talks u_X_now_dues u_X_now_sights u_X_now_settings u_X_now_stake u_X_now_rule_limit N_X_now_rule_cells v_X_rule_size v_X_rule_place v_X_rule_fault v_X_now_rule_width v_X_now_rule_size a_X_now_rule_cells a_X_rule_row) (ws_X8_parseUnit cI cJ cZ cA q_X_rule q_X_now q_X_now_rule q_X_now_rule_cells q_X_rule_row u_X_rule_stack u_X_rule_known u_X_rule_isStale u_X_now_people u_X_now_talks u_X_now_dues u_X_now_sights u_X_now_settings u_X_now_stake u_X_now_rule_limit N_X_now_rule_cells o.1 o.2.1 o.2.2.1 v_X_now_rule_width v_X_now_rule_size a_X_now_rule_cells o.2.2.2) none := by
  refine zenterV (own := RX8) (by decide) rfl rfl (Nat.le_of_ble_eq_true rfl) ?_
  intro p e s m args below meth c A ls Q S hA hK hG hl hP hD hS hret0
  have hx := S.1
  have hb := S.2.1
  have ht : ∀ w, w ∈ wsL_law → w.before args s = true := fun w h => S.2.2.2.2 w (List.mem_cons_of_mem _ h)
  have hret : ∀ (v_X_rule_size : Int32) (v_X_rule_place : Int32) (v_X_rule_fault : Int32) (a_X_rule_row : Nat → Int32), (some (v_X_rule_size, v_X_rule_place, v_X_rule_fault, a_X_rule_row) : Option (Int32 × Int32 × Int32 × (Nat → Int32))) = some o → ∀ (H : Heap) (locs : List Loc) (pc : Nat) (ls : Array Slot), va_P D vwCl (ws_X8_parseUnit cI cJ cZ cA q_X_rule q_X_now q_X_now_rule q_X_now_rule_cells q_X_rule_row u_X_rule_stack u_X_rule_known u_X_rule_isStale u_X_now_people u_X_now_talks u_X_now_dues u_X_now_sights u_X_now_settings u_X_now_stake u_X_now_rule_limit N_X_now_rule_cells v_X_rule_size v_X_rule_place v_X_rule_fault v_X_now_rule_width v_X_now_rule_size a_X_now_rule_cells a_X_rule_row) H → va_S A s.heap H locs → decode cX8_parseUnit pc = .ok (.return_, 1) → W p l e (rmr_X8 (d + 1)) s m args below meth c H locs 0 0 Q (F0 m pc ls []) := by
    intro v_X_rule_size v_X_rule_place v_X_rule_fault a_X_rule_row he; cases he; exact hret0
  have hl : lv_has ls 6 [(0, .ref q_X_rule), (1, .int x1)] := hl
  have B107 : ∀ (k60 : Int32 → Int32 → Int32 → Int32 → Int32 → (Nat → Int32) → Option (Int32 × Int32 × Int32 × (Nat → Int32))) (hk60 : ∀ (x2 : Int32) (x4 : Int32) (v_X_rule_size : Int32) (v_X_rule_place : Int32) (v_X_rule_fault : Int32) (a_X_rule_row : Nat → Int32) (H : Heap) (locs : List Loc) (ls : Array Slot) (hl : lv_has ls 6 [(0, .ref q_X_rule), (2, .int x2), (4, .int x4)]) (hP : va_P D vwCl (ws_X8_parseUnit cI cJ cZ cA q_X_rule q_X_now q_X_now_rule q_X_now_rule_cells q_X_rule_row u_X_rule_stack u_X_rule_known u_X_rule_isStale u_X_now_people u_X_now_talks u_X_now_dues u_X_now_sights u_X_now_settings u_X_now_stake u_X_now_rule_limit N_X_now_rule_cells v_X_rule_size v_X_rule_place v_X_rule_fault v_X_now_rule_width v_X_now_rule_size a_X_now_rule_cells a_X_rule_row) H) (hD : va_D A (ws_X8_parseUnit cI cJ cZ cA q_X_rule q_X_now q_X_now_rule q_X_now_rule_cells q_X_rule_row u_X_rule_stack u_X_rule_known u_X_rule_isStale u_X_now_people u_X_now_talks u_X_now_dues u_X_now_sights u_X_now_settings u_X_now_stake u_X_now_rule_limit N_X_now_rule_cells v_X_rule_size v_X_rule_place v_X_rule_fault v_X_now_rule_width v_X_now_rule_size a_X_now_rule_cells a_X_rule_row)) (hS : va_S A s.heap H locs), k60 x2 x4 v_X_rule_size v_X_rule_place v_X_rule_fault a_X_rule_row = some o → W p l e (rmr_X8 (d + 1)) s m args below meth c H locs 0 0 Q (F0 m 60 ls [])) (x2 : Int32) (x4 : Int32) (v_X_rule_size : Int32) (v_X_rule_place : Int32) (v_X_rule_fault : Int32) (a_X_rule_row : Nat → Int32) (H : Heap) (locs : List Loc) (ls : Array Slot) (hl : lv_has ls 6 [(0, .ref q_X_rule), (2, .int x2), (4, .int x4)]) (hP : va_P D vwCl (ws_X8_parseUnit cI cJ cZ cA q_X_rule q_X_now q_X_now_rule q_X_now_rule_cells q_X_rule_row u_X_rule_stack u_X_rule_known u_X_rule_isStale u_X_now_people u_X_now_talks u_X_now_dues u_X_now_sights u_X_now_settings u_X_now_stake u_X_now_rule_limit N_X_now_rule_cells v_X_rule_size v_X_rule_place v_X_rule_fault v_X_now_rule_width v_X_now_rule_size a_X_now_rule_cells a_X_rule_row) H) (hD : va_D A (ws_X8_parseUnit cI cJ cZ cA q_X_rule q_X_now q_X_now_rule q_X_now_rule_cells q_X_rule_row u_X_rule_stack u_X_rule_known u_X_rule_isStale u_X_now_people u_X_now_talks u_X_now_dues u_X_now_sights u_X_now_settings u_X_now_stake u_X_now_rule_limit N_X_now_rule_cells v_X_rule_size v_X_rule_place v_X_rule_fault v_X_now_rule_width v_X_now_rule_size a_X_now_rule_cells a_X_rule_row)) (hS : va_S A s.heap H locs), g_X8_parseUnit_107 N_X_now_rule_cells v_X_now_rule_width v_X_now_rule_size a_X_now_rule_cells x1 rec k60 x2 x4 v_X_rule_size v_X_rule_place v_X_rule_fault a_X_rule_row = some o → W p l e (rmr_X8 (d + 1)) s m args below meth c H locs 0 0 Q (F0 m 107 ls []) := by
    intro k60 hk60 x2 x4 v_X_rule_size v_X_rule_place v_X_rule_fault a_X_rule_row H locs ls hl hP hD hS hg
    refine lv_iinc (k := 2) (v := x4 + (-1)) (lv' := [(4, .int (x4 + (-1))), (0, .ref q_X_rule), (2, .int x2)]) hx hb dX8_parseUnit_107 hl rfl (zinc (by decide)) (by decide) rfl (fun ls hl => ?_)
    refine lv_goto (tgt := 60) hx hb dX8_parseUnit_110 (by decide) ?_
    exact hk60 x2 (x4 + (-1)) v_X_rule_size v_X_rule_place v_X_rule_fault a_X_rule_row _ _ _ (lv_sub hl [1, 2, 0] rfl) hP hD hS hg
  have B104 : ∀ (k60 : Int32 → Int32 → Int32 → Int32 → Int32 → (Nat → Int32) → Option (Int32 × Int32 × Int32 × (Nat → Int32))) (hk60 : ∀ (x2 : Int32) (x4 : Int32) (v_X_rule_size : Int32) (v_X_rule_place : Int32) (v_X_rule_fault : Int32) (a_X_rule_row : Nat → Int32) (H : Heap) (locs : List Loc) (ls : Array Slot) (hl : lv_has ls 6 [(0, .ref q_X_rule), (2, .int x2), (4, .int x4)]) (hP : va_P D vwCl (ws_X8_parseUnit cI cJ cZ cA q_X_rule q_X_now q_X_now_rule q_X_now_rule_cells q_X_rule_row u_X_rule_stack u_X_rule_known u_X_rule_isStale u_X_now_people u_X_now_talks u_X_now_dues u_X_now_sights u_X_now_settings u_X_now_stake u_X_now_rule_limit N_X_now_rule_cells v_X_rule_size v_X_rule_place v_X_rule_fault v_X_now_rule_width v_X_now_rule_size a_X_now_rule_cells a_X_rule_row) H) (hD : va_D A (ws_X8_parseUnit cI cJ cZ cA q_X_rule q_X_now q_X_now_rule q_X_now_rule_cells q_X_rule_row u_X_rule_stack u_X_rule_known u_X_rule_isStale u_X_now_people u_X_now_talks u_X_now_dues u_X_now_sights u_X_now_settings u_X_now_stake u_X_now_rule_limit N_X_now_rule_cells v_X_rule_size v_X_rule_place v_X_rule_fault v_X_now_rule_width v_X_now_rule_size a_X_now_rule_cells a_X_rule_row)) (hS : va_S A s.heap H locs), k60 x2 x4 v_X_rule_size v_X_rule_place v_X_rule_fault a_X_rule_row = some o → W p l e (rmr_X8 (d + 1)) s m args below meth c H locs 0 0 Q (F0 m 60 ls [])) (x2 : Int32) (x4 : Int32) (t1 : Int32) (v_X_rule_size : Int32) (v_X_rule_place : Int32) (v_X_rule_fault : Int32) (a_X_rule_row : Nat → Int32) (H : Heap) (locs : List Loc) (ls : Array Slot) (hl : lv_has ls 6 [(0, .ref q_X_rule), (2, .int x2), (4, .int x4)]) (hP : va_P D vwCl (ws_X8_parseUnit cI cJ cZ cA q_X_rule q_X_now q_X_now_rule q_X_now_rule_cells q_X_rule_row u_X_rule_stack u_X_rule_known u_X_rule_isStale u_X_now_people u_X_now_talks u_X_now_dues u_X_now_sights u_X_now_settings u_X_now_stake u_X_now_rule_limit N_X_now_rule_cells v_X_rule_size v_X_rule_place v_X_rule_fault v_X_now_rule_width v_X_now_rule_size a_X_now_rule_cells a_X_rule_row) H) (hD : va_D A (ws_X8_parseUnit cI cJ cZ cA q_X_rule q_X_now q_X_now_rule q_X_now_rule_cells q_X_rule_row u_X_rule_stack u_X_rule_known u_X_rule_isStale u_X_now_people u_X_now_talks u_X_now_dues u_X_now_sights u_X_now_settings u_X_now_stake u_X_now_rule_limit N_X_now_rule_cells v_X_rule_size v_X_rule_place v_X_rule_fault v_X_now_rule_width v_X_now_rule_size a_X_now_rule_cells a_X_rule_row)) (hS : va_S A s.heap H locs), g_X8_parseUnit_104 N_X_now_rule_cells v_X_now_rule_width v_X_now_rule_size a_X_now_rule_cells x1 rec k60 x2 x4 t1 v_X_rule_size v_X_rule_place v_X_rule_fault a_X_rule_row = some o → W p l e (rmr_X8 (d + 1)) s m args below meth c H locs 0 0 Q (F0 m 104 ls [.int t1, .ref q_X_rule]) := by
    intro k60 hk60 x2 x4 t1 v_X_rule_size v_X_rule_place v_X_rule_fault a_X_rule_row H locs ls hl hP hD hS hg
    obtain ⟨v9, hc10, hg⟩ := zbd hg
    refine zcallV (rest := []) S (c_X8_emit l D cI cJ cZ cA ga q_X_rule q_X_rule_row (.ref q_X_now) u_X_rule_stack u_X_rule_known (.int v_X_rule_place) u_X_rule_isStale v_X_rule_size v_X_rule_fault a_X_rule_row t1 v9 hc10) (zgV zw_557 zw_558 zw_559 zw_35 zw_560) rfl hd_X8_emit ⟨rfl, rfl⟩ ⟨by simp only [rm_X8_emit, rmr_X8]; omega, by simp only [rm_X8_emit, rmr_X8]; omega⟩ 0 8 rfl rfl rfl hl.1 rfl (Nat.le_of_ble_eq_true rfl) dX8_parseUnit_104 hP hD hS hA hK hG (isC := [0, 4]) rfl (by decide +kernel) rfl ⟨Nat.zero_le _, Nat.zero_le _⟩ (pl := [some 0, none, none, none, some 1]) (nw := 5) rfl (by decide +kernel) (w2 := (ws_X8_parseUnit cI cJ cZ cA q_X_rule q_X_now q_X_now_rule q_X_now_rule_cells q_X_rule_row u_X_rule_stack u_X_rule_known u_X_rule_isStale u_X_now_people u_X_now_talks u_X_now_dues u_X_now_sights u_X_now_settings u_X_now_stake u_X_now_rule_limit N_X_now_rule_cells v9.1 v_X_rule_place v_X_rule_fault v_X_now_rule_width v_X_now_rule_size a_X_now_rule_cells v9.2)) rfl (st1 := []) rfl (fun H locs hP hD hS => ?_)
    exact B107 k60 hk60 x2 x4 v9.1 v_X_rule_place v_X_rule_fault v9.2 _ _ _ hl hP hD hS hg
  have B60 : ∀  (n : Nat) (x2 : Int32) (x4 : Int32) (v_X_rule_size : Int32) (v_X_rule_place : Int32) (v_X_rule_fault : Int32) (a_X_rule_row : Nat → Int32) (H : Heap) (locs : List Loc) (ls : Array Slot) (hl : lv_has ls 6 [(0, .ref q_X_rule), (2, .int x2), (4, .int x4)]) (hP : va_P D vwCl (ws_X8_parseUnit cI cJ cZ cA q_X_rule q_X_now q_X_now_rule q_X_now_rule_cells q_X_rule_row u_X_rule_stack u_X_rule_known u_X_rule_isStale u_X_now_people u_X_now_talks u_X_now_dues u_X_now_sights u_X_now_settings u_X_now_stake u_X_now_rule_limit N_X_now_rule_cells v_X_rule_size v_X_rule_place v_X_rule_fault v_X_now_rule_width v_X_now_rule_size a_X_now_rule_cells a_X_rule_row) H) (hD : va_D A (ws_X8_parseUnit cI cJ cZ cA q_X_rule q_X_now q_X_now_rule q_X_now_rule_cells q_X_rule_row u_X_rule_stack u_X_rule_known u_X_rule_isStale u_X_now_people u_X_now_talks u_X_now_dues u_X_now_sights u_X_now_settings u_X_now_stake u_X_now_rule_limit N_X_now_rule_cells v_X_rule_size v_X_rule_place v_X_rule_fault v_X_now_rule_width v_X_now_rule_size a_X_now_rule_cells a_X_rule_row)) (hS : va_S A s.heap H locs), g_X8_parseUnit_60 N_X_now_rule_cells v_X_now_rule_width v_X_now_rule_size a_X_now_rule_cells x1 rec n x2 x4 v_X_rule_size v_X_rule_place v_X_rule_fault a_X_rule_row = some o → W p l e (rmr_X8 (d + 1)) s m args below meth c H locs 0 0 Q (F0 m 60 ls []) := by
    intro  n
    induction n with
    | zero => intro x2 x4 v_X_rule_size v_X_rule_place v_X_rule_fault a_X_rule_row H locs ls hl hP hD hS hg; exact nomatch (show (none : Option (Int32 × Int32 × Int32 × (Nat → Int32))) = some o from hg)
    | succ n ih =>
      intro x2 x4 v_X_rule_size v_X_rule_place v_X_rule_fault a_X_rule_row H locs ls hl hP hD hS hg
      have hg : g_X8_parseUnit_60b N_X_now_rule_cells v_X_now_rule_width v_X_now_rule_size a_X_now_rule_cells x1 rec (g_X8_parseUnit_60 N_X_now_rule_cells v_X_now_rule_width v_X_now_rule_size a_X_now_rule_cells x1 rec n) x2 x4 v_X_rule_size v_X_rule_place v_X_rule_fault a_X_rule_row = some o := hg
      refine lv_iload hx hb dX8_parseUnit_60 (lv_at hl 2 rfl) ?_
      refine lv_iload_n hx hb dX8_parseUnit_62 rfl (lv_at hl 1 rfl) ?_
      refine lv_icmp_lt (tgt := 113) hx hb dX8_parseUnit_63 (by decide) (fun h63 => ?_) (fun h63 => ?_)
      · have hg := zp hg h63
        exact hret v_X_rule_size v_X_rule_place v_X_rule_fault a_X_rule_row hg _ _ _ _ hP hS dX8_parseUnit_113
      · have hg := zn hg h63
        refine lv_aload_n hx hb dX8_parseUnit_66 rfl (lv_at hl 0 rfl) ?_
        refine zget (C := RX8) (T := TX8) (N := 8) S hK hP 0 rfl rfl 0 (Nat.le_of_ble_eq_true rfl) zf_8 zw_111 rfl dX8_parseUnit_67 ?_
        refine zget (C := RX9) (T := TX9) (N := 7) S hK hP 1 rfl rfl 4 (Nat.le_of_ble_eq_true rfl) zf_9 zw_551 rfl dX8_parseUnit_70 ?_
        refine lv_iload hx hb dX8_parseUnit_73 (lv_at hl 2 rfl) ?_
        refine lv_iconst (v := 0) hx hb dX8_parseUnit_75 (by decide) ?_
        obtain ⟨v5, hc6, hg⟩ := zbd hg
        refine zcallV (rest := []) S (c_X7_at l D cI cJ cZ cA ga q_X_now_rule q_X_now_rule_cells u_X_now_rule_limit N_X_now_rule_cells v_X_now_rule_width v_X_now_rule_size a_X_now_rule_cells x4 0 v5 hc6) (zgV zw_553 zw_353 zw_354 zw_32 zw_355) rfl hd_X7_at ⟨rfl, rfl⟩ ⟨by simp only [rm_X7_at, rmr_X8]; omega, by simp only [rm_X7_at, rmr_X8]; omega⟩ 2 7 rfl rfl rfl hl.1 rfl (Nat.le_of_ble_eq_true rfl) dX8_parseUnit_76 hP hD hS hA hK hG (isC := [2, 3]) rfl (by decide +kernel) rfl ⟨Nat.zero_le _, Nat.zero_le _⟩ (pl := [none, none, some 0, some 1, none]) (nw := 5) rfl (by decide +kernel) (w2 := (ws_X8_parseUnit cI cJ cZ cA q_X_rule q_X_now q_X_now_rule q_X_now_rule_cells q_X_rule_row u_X_rule_stack u_X_rule_known u_X_rule_isStale u_X_now_people u_X_now_talks u_X_now_dues u_X_now_sights u_X_now_settings u_X_now_stake u_X_now_rule_limit N_X_now_rule_cells v_X_rule_size v_X_rule_place v_X_rule_fault v_X_now_rule_width v_X_now_rule_size a_X_now_rule_cells a_X_rule_row)) rfl (st1 := [.int v5]) rfl (fun H locs hP hD hS => ?_)
        refine lv_istore (lv' := [(5, .int v5), (0, .ref q_X_rule), (2, .int x2), (4, .int x4)]) hx hb dX8_parseUnit_79 hl (by decide) rfl (fun ls hl => ?_)
        refine lv_iload hx hb dX8_parseUnit_81 (lv_at hl 0 rfl) ?_
        obtain ⟨v7, hc8, hg⟩ := zbd hg
        refine zcallS (rest := []) S (c_X8_isPrefix l D cI cJ cZ cA ga v5 v7 hc8) (zgS zw_577 zw_578 zw_35 zw_579) rfl hd_X8_isPrefix ⟨rfl, rfl⟩ ⟨by simp only [rm_X8_isPrefix, rmr_X8]; omega, by simp only [rm_X8_isPrefix, rmr_X8]; omega⟩ rfl hl.1 rfl (Nat.le_of_ble_eq_true rfl) dX8_parseUnit_83 hP hD hS hA hK hG (isC := []) rfl (by decide +kernel) rfl ⟨Nat.zero_le _, Nat.zero_le _⟩ (pl := [none, none, none, none, none]) (nw := 5) rfl (by decide +kernel) (w2 := (ws_X8_parseUnit cI cJ cZ cA q_X_rule q_X_now q_X_now_rule q_X_now_rule_cells q_X_rule_row u_X_rule_stack u_X_rule_known u_X_rule_isStale u_X_now_people u_X_now_talks u_X_now_dues u_X_now_sights u_X_now_settings u_X_now_stake u_X_now_rule_limit N_X_now_rule_cells v_X_rule_size v_X_rule_place v_X_rule_fault v_X_now_rule_width v_X_now_rule_size a_X_now_rule_cells a_X_rule_row)) rfl (st1 := [.int v7]) rfl (fun H locs hP hD hS => ?_)
        refine lv_if_eq (tgt := 107) hx hb dX8_parseUnit_86 (by decide) (fun h86 => ?_) (fun h86 => ?_)
        · have hg := zp hg h86
          exact B107 (g_X8_parseUnit_60 N_X_now_rule_cells v_X_now_rule_width v_X_now_rule_size a_X_now_rule_cells x1 rec n) ih x2 x4 v_X_rule_size v_X_rule_place v_X_rule_fault a_X_rule_row _ _ _ (lv_sub hl [1, 2, 3] rfl) hP hD hS hg
        · have hg := zn hg h86
          refine lv_aload_n hx hb dX8_parseUnit_89 rfl (lv_at hl 1 rfl) ?_
          refine lv_iload hx hb dX8_parseUnit_90 (lv_at hl 0 rfl) ?_
          refine lv_bipush (v := 33) hx hb dX8_parseUnit_92 (by decide) ?_
          refine lv_icmp_ne (tgt := 102) hx hb dX8_parseUnit_94 (by decide) (fun h94 => ?_) (fun h94 => ?_)
          · have hg := zn hg h94
            refine lv_bipush (v := (-126)) hx hb dX8_parseUnit_102 (by decide) ?_
            exact B104 (g_X8_parseUnit_60 N_X_now_rule_cells v_X_now_rule_width v_X_now_rule_size a_X_now_rule_cells x1 rec n) ih x2 x4 (-126) v_X_rule_size v_X_rule_place v_X_rule_fault a_X_rule_row _ _ _ (lv_sub hl [1, 2, 3] rfl) hP hD hS hg
          · have hg := zp hg h94
            refine lv_bipush (v := (-33)) hx hb dX8_parseUnit_97 (by decide) ?_
            refine lv_goto (tgt := 104) hx hb dX8_parseUnit_99 (by decide) ?_
            exact B104 (g_X8_parseUnit_60 N_X_now_rule_cells v_X_now_rule_width v_X_now_rule_size a_X_now_rule_cells x1 rec n) ih x2 x4 (-33) v_X_rule_size v_X_rule_place v_X_rule_fault a_X_rule_row _ _ _ (lv_sub hl [1, 2, 3] rfl) hP hD hS hg
  have B45 : ∀ (x2 : Int32) (v_X_rule_size : Int32) (v_X_rule_place : Int32) (v_X_rule_fault : Int32) (a_X_rule_row : Nat → Int32) (H : Heap) (locs : List Loc) (ls : Array Slot) (hl : lv_has ls 6 [(0, .ref q_X_rule), (1, .int x1), (2, .int x2)]) (hP : va_P D vwCl (ws_X8_parseUnit cI cJ cZ cA q_X_rule q_X_now q_X_now_rule q_X_now_rule_cells q_X_rule_row u_X_rule_stack u_X_rule_known u_X_rule_isStale u_X_now_people u_X_now_talks u_X_now_dues u_X_now_sights u_X_now_settings u_X_now_stake u_X_now_rule_limit N_X_now_rule_cells v_X_rule_size v_X_rule_place v_X_rule_fault v_X_now_rule_width v_X_now_rule_size a_X_now_rule_cells a_X_rule_row) H) (hD : va_D A (ws_X8_parseUnit cI cJ cZ cA q_X_rule q_X_now q_X_now_rule q_X_now_rule_cells q_X_rule_row u_X_rule_stack u_X_rule_known u_X_rule_isStale u_X_now_people u_X_now_talks u_X_now_dues u_X_now_sights u_X_now_settings u_X_now_stake u_X_now_rule_limit N_X_now_rule_cells v_X_rule_size v_X_rule_place v_X_rule_fault v_X_now_rule_width v_X_now_rule_size a_X_now_rule_cells a_X_rule_row)) (hS : va_S A s.heap H locs), g_X8_parseUnit_45 N_X_now_rule_cells v_X_now_rule_width v_X_now_rule_size a_X_now_rule_cells x1 rec x2 v_X_rule_size v_X_rule_place v_X_rule_fault a_X_rule_row = some o → W p l e (rmr_X8 (d + 1)) s m args below meth c H locs 0 0 Q (F0 m 45 ls []) := by
    intro  x2 v_X_rule_size v_X_rule_place v_X_rule_fault a_X_rule_row H locs ls hl hP hD hS hg
    refine lv_aload_n hx hb dX8_parseUnit_45 rfl (lv_at hl 0 rfl) ?_
    refine zget (C := RX8) (T := TX8) (N := 8) S hK hP 0 rfl rfl 5 (Nat.le_of_ble_eq_true rfl) zf_8 zw_538 rfl dX8_parseUnit_46 ?_
    refine lv_istore_n (lv' := [(3, .int v_X_rule_place), (0, .ref q_X_rule), (1, .int x1), (2, .int x2)]) hx hb dX8_parseUnit_49 rfl hl (by decide) rfl (fun ls hl => ?_)
    refine lv_aload_n hx hb dX8_parseUnit_50 rfl (lv_at hl 1 rfl) ?_
    refine lv_iload_n hx hb dX8_parseUnit_51 rfl (lv_at hl 2 rfl) ?_
    obtain ⟨v3, hc4, hg⟩ := zbd hg
    refine zcallV (rest := []) S (hrec2 x1 v_X_rule_size v_X_rule_place v_X_rule_fault a_X_rule_row v3 hc4) (zgV zw_580 zw_581 zw_582 zw_35 zw_561) rfl hd_X8_parseOperand ⟨rfl, rfl⟩ ⟨by simp only [rmr_X8]; omega, by simp only [rmr_X8]; omega⟩ 0 8 rfl rfl rfl hl.1 rfl (Nat.le_of_ble_eq_true rfl) dX8_parseUnit_52 hP hD hS hA hK hG (isC := [0, 1, 2, 3, 4]) rfl (by decide +kernel) rfl ⟨Nat.zero_le _, Nat.zero_le _⟩ (pl := [some 0, some 1, some 2, some 3, some 4]) (nw := 5) rfl (by decide +kernel) (w2 := (ws_X8_parseUnit cI cJ cZ cA q_X_rule q_X_now q_X_now_rule q_X_now_rule_cells q_X_rule_row u_X_rule_stack u_X_rule_known u_X_rule_isStale u_X_now_people u_X_now_talks u_X_now_dues u_X_now_sights u_X_now_settings u_X_now_stake u_X_now_rule_limit N_X_now_rule_cells v3.1 v3.2.1 v3.2.2.1 v_X_now_rule_width v_X_now_rule_size a_X_now_rule_cells v3.2.2.2)) rfl (st1 := []) rfl (fun H locs hP hD hS => ?_)
    refine lv_iload_n hx hb dX8_parseUnit_55 rfl (lv_at hl 0 rfl) ?_
    refine lv_iconst (v := 1) hx hb dX8_parseUnit_56 (by decide) ?_
    refine lv_isub hx hb dX8_parseUnit_57 ?_
    refine lv_istore (lv' := [(4, .int (v_X_rule_place - 1)), (3, .int v_X_rule_place), (0, .ref q_X_rule), (1, .int x1), (2, .int x2)]) hx hb dX8_parseUnit_58 hl (by decide) rfl (fun ls hl => ?_)
    exact B60 zF x2 (v_X_rule_place - 1) v3.1 v3.2.1 v3.2.2.1 v3.2.2.2 _ _ _ (lv_sub hl [2, 4, 0] rfl) hP hD hS hg
  have B5 : ∀  (n : Nat) (x2 : Int32) (v_X_rule_size : Int32) (v_X_rule_place : Int32) (v_X_rule_fault : Int32) (a_X_rule_row : Nat → Int32) (H : Heap) (locs : List Loc) (ls : Array Slot) (hl : lv_has ls 6 [(0, .ref q_X_rule), (1, .int x1), (2, .int x2)]) (hP : va_P D vwCl (ws_X8_parseUnit cI cJ cZ cA q_X_rule q_X_now q_X_now_rule q_X_now_rule_cells q_X_rule_row u_X_rule_stack u_X_rule_known u_X_rule_isStale u_X_now_people u_X_now_talks u_X_now_dues u_X_now_sights u_X_now_settings u_X_now_stake u_X_now_rule_limit N_X_now_rule_cells v_X_rule_size v_X_rule_place v_X_rule_fault v_X_now_rule_width v_X_now_rule_size a_X_now_rule_cells a_X_rule_row) H) (hD : va_D A (ws_X8_parseUnit cI cJ cZ cA q_X_rule q_X_now q_X_now_rule q_X_now_rule_cells q_X_rule_row u_X_rule_stack u_X_rule_known u_X_rule_isStale u_X_now_people u_X_now_talks u_X_now_dues u_X_now_sights u_X_now_settings u_X_now_stake u_X_now_rule_limit N_X_now_rule_cells v_X_rule_size v_X_rule_place v_X_rule_fault v_X_now_rule_width v_X_now_rule_size a_X_now_rule_cells a_X_rule_row)) (hS : va_S A s.heap H locs), g_X8_parseUnit_5 N_X_now_rule_cells v_X_now_rule_width v_X_now_rule_size a_X_now_rule_cells x1 rec n x2 v_X_rule_size v_X_rule_place v_X_rule_fault a_X_rule_row = some o → W p l e (rmr_X8 (d + 1)) s m args below meth c H locs 0 0 Q (F0 m 5 ls []) := by
    intro  n
    induction n with
    | zero => intro x2 v_X_rule_size v_X_rule_place v_X_rule_fault a_X_rule_row H locs ls hl hP hD hS hg; exact nomatch (show (none : Option (Int32 × Int32 × Int32 × (Nat → Int32))) = some o from hg)
    | succ n ih =>
      intro x2 v_X_rule_size v_X_rule_place v_X_rule_fault a_X_rule_row H locs ls hl hP hD hS hg
      have hg : g_X8_parseUnit_5b N_X_now_rule_cells v_X_now_rule_width v_X_now_rule_size a_X_now_rule_cells x1 rec (g_X8_parseUnit_5 N_X_now_rule_cells v_X_now_rule_width v_X_now_rule_size a_X_now_rule_cells x1 rec n) x2 v_X_rule_size v_X_rule_place v_X_rule_fault a_X_rule_row = some o := hg
      refine lv_aload_n hx hb dX8_parseUnit_5 rfl (lv_at hl 0 rfl) ?_
      refine zget (C := RX8) (T := TX8) (N := 8) S hK hP 0 rfl rfl 5 (Nat.le_of_ble_eq_true rfl) zf_8 zw_538 rfl dX8_parseUnit_6 ?_
      refine lv_aload_n hx hb dX8_parseUnit_9 rfl (lv_at hl 0 rfl) ?_
      refine zget (C := RX8) (T := TX8) (N := 8) S hK hP 0 rfl rfl 0 (Nat.le_of_ble_eq_true rfl) zf_8 zw_111 rfl dX8_parseUnit_10 ?_
      refine zget (C := RX9) (T := TX9) (N := 7) S hK hP 1 rfl rfl 4 (Nat.le_of_ble_eq_true rfl) zf_9 zw_551 rfl dX8_parseUnit_13 ?_
      obtain ⟨v1, hc2, hg⟩ := zbd hg
      refine zcallV (rest := [.int v_X_rule_place]) S (c_X7_size l D cI cJ cZ cA ga q_X_now_rule (.int v_X_now_rule_width) u_X_now_rule_limit (.ref q_X_now_rule_cells) v_X_now_rule_size v1 hc2) (zgV zw_552 zw_180 zw_181 zw_32 zw_182) rfl hd_X7_size ⟨rfl, rfl⟩ ⟨by simp only [rm_X7_size, rmr_X8]; omega, by simp only [rm_X7_size, rmr_X8]; omega⟩ 2 7 rfl rfl rfl hl.1 rfl (Nat.le_of_ble_eq_true rfl) dX8_parseUnit_16 hP hD hS hA hK hG (isC := [2]) rfl (by decide +kernel) rfl ⟨Nat.zero_le _, Nat.zero_le _⟩ (pl := [none, none, some 0, none, none]) (nw := 5) rfl (by decide +kernel) (w2 := (ws_X8_parseUnit cI cJ cZ cA q_X_rule q_X_now q_X_now_rule q_X_now_rule_cells q_X_rule_row u_X_rule_stack u_X_rule_known u_X_rule_isStale u_X_now_people u_X_now_talks u_X_now_dues u_X_now_sights u_X_now_settings u_X_now_stake u_X_now_rule_limit N_X_now_rule_cells v_X_rule_size v_X_rule_place v_X_rule_fault v_X_now_rule_width v_X_now_rule_size a_X_now_rule_cells a_X_rule_row)) rfl (st1 := [.int v1, .int v_X_rule_place]) rfl (fun H locs hP hD hS => ?_)
      refine lv_icmp_ge (tgt := 45) hx hb dX8_parseUnit_19 (by decide) (fun h19 => ?_) (fun h19 => ?_)
      · have hg := zp hg h19
        exact B45 x2 v_X_rule_size v_X_rule_place v_X_rule_fault a_X_rule_row _ _ _ hl hP hD hS hg
      · have hg := zn hg h19
        refine lv_aload_n hx hb dX8_parseUnit_22 rfl (lv_at hl 0 rfl) ?_
        obtain ⟨v11, hc12, hg⟩ := zbd hg
        refine zcallV (rest := []) S (c_X8_ahead l D cI cJ cZ cA ga q_X_rule q_X_now q_X_now_rule q_X_now_rule_cells (.ref q_X_rule_row) u_X_rule_stack u_X_rule_known (.int v_X_rule_size) (.int v_X_rule_fault) u_X_rule_isStale u_X_now_people u_X_now_talks u_X_now_dues u_X_now_sights u_X_now_settings u_X_now_stake u_X_now_rule_limit N_X_now_rule_cells v_X_rule_place v_X_now_rule_width v_X_now_rule_size a_X_now_rule_cells v11 hc12) (zgV zw_547 zw_548 zw_549 zw_35 zw_550) rfl hd_X8_ahead ⟨rfl, rfl⟩ ⟨by simp only [rm_X8_ahead, rmr_X8]; omega, by simp only [rm_X8_ahead, rmr_X8]; omega⟩ 0 8 rfl rfl rfl hl.1 rfl (Nat.le_of_ble_eq_true rfl) dX8_parseUnit_23 hP hD hS hA hK hG (isC := [0, 1, 2, 3]) rfl (by decide +kernel) rfl ⟨Nat.zero_le _, Nat.zero_le _⟩ (pl := [some 0, some 1, some 2, some 3, none]) (nw := 5) rfl (by decide +kernel) (w2 := (ws_X8_parseUnit cI cJ cZ cA q_X_rule q_X_now q_X_now_rule q_X_now_rule_cells q_X_rule_row u_X_rule_stack u_X_rule_known u_X_rule_isStale u_X_now_people u_X_now_talks u_X_now_dues u_X_now_sights u_X_now_settings u_X_now_stake u_X_now_rule_limit N_X_now_rule_cells v_X_rule_size v11.2 v_X_rule_fault v_X_now_rule_width v_X_now_rule_size a_X_now_rule_cells a_X_rule_row)) rfl (st1 := [.int v11.1]) rfl (fun H locs hP hD hS => ?_)
        obtain ⟨v13, hc14, hg⟩ := zbd hg
        refine zcallS (rest := []) S (c_X8_isPrefix l D cI cJ cZ cA ga v11.1 v13 hc14) (zgS zw_577 zw_578 zw_35 zw_579) rfl hd_X8_isPrefix ⟨rfl, rfl⟩ ⟨by simp only [rm_X8_isPrefix, rmr_X8]; omega, by simp only [rm_X8_isPrefix, rmr_X8]; omega⟩ rfl hl.1 rfl (Nat.le_of_ble_eq_true rfl) dX8_parseUnit_26 hP hD hS hA hK hG (isC := []) rfl (by decide +kernel) rfl ⟨Nat.zero_le _, Nat.zero_le _⟩ (pl := [none, none, none, none, none]) (nw := 5) rfl (by decide +kernel) (w2 := (ws_X8_parseUnit cI cJ cZ cA q_X_rule q_X_now q_X_now_rule q_X_now_rule_cells q_X_rule_row u_X_rule_stack u_X_rule_known u_X_rule_isStale u_X_now_people u_X_now_talks u_X_now_dues u_X_now_sights u_X_now_settings u_X_now_stake u_X_now_rule_limit N_X_now_rule_cells v_X_rule_size v11.2 v_X_rule_fault v_X_now_rule_width v_X_now_rule_size a_X_now_rule_cells a_X_rule_row)) rfl (st1 := [.int v13]) rfl (fun H locs hP hD hS => ?_)
        refine lv_if_eq (tgt := 45) hx hb dX8_parseUnit_29 (by decide) (fun h29 => ?_) (fun h29 => ?_)
        · have hg := zp hg h29
          exact B45 x2 v_X_rule_size v11.2 v_X_rule_fault a_X_rule_row _ _ _ hl hP hD hS hg
        · have hg := zn hg h29
          refine lv_aload_n hx hb dX8_parseUnit_32 rfl (lv_at hl 0 rfl) ?_
          refine lv_dup hx hb dX8_parseUnit_33 rfl ?_
          refine zget (C := RX8) (T := TX8) (N := 8) S hK hP 0 rfl rfl 5 (Nat.le_of_ble_eq_true rfl) zf_8 zw_538 rfl dX8_parseUnit_34 ?_
          refine lv_iconst (v := 1) hx hb dX8_parseUnit_37 (by decide) ?_
          refine lv_iadd hx hb dX8_parseUnit_38 ?_
          refine zputf (C := RX8) (T := TX8) (N := 8) (ty := .int) S hK hP hD hS 0 rfl rfl 5 (Nat.le_of_ble_eq_true rfl) zf_8 tyX8 tyX8_ok nmX8 zw_538 rfl (by decide +kernel) rfl rfl (Nat.le_of_ble_eq_true rfl) dX8_parseUnit_39 (w2 := (ws_X8_parseUnit cI cJ cZ cA q_X_rule q_X_now q_X_now_rule q_X_now_rule_cells q_X_rule_row u_X_rule_stack u_X_rule_known u_X_rule_isStale u_X_now_people u_X_now_talks u_X_now_dues u_X_now_sights u_X_now_settings u_X_now_stake u_X_now_rule_limit N_X_now_rule_cells v_X_rule_size (v11.2 + 1) v_X_rule_fault v_X_now_rule_width v_X_now_rule_size a_X_now_rule_cells a_X_rule_row)) rfl (fun H locs hP hD hS => ?_)
          refine lv_goto (tgt := 5) hx hb dX8_parseUnit_42 (by decide) ?_
          exact ih x2 v_X_rule_size (v11.2 + 1) v_X_rule_fault a_X_rule_row _ _ _ hl hP hD hS hg
  refine lv_aload_n hx hb dX8_parseUnit_0 rfl (lv_at hl 0 rfl) ?_
  refine zget (C := RX8) (T := TX8) (N := 8) S hK hP 0 rfl rfl 5 (Nat.le_of_ble_eq_true rfl) zf_8 zw_538 rfl dX8_parseUnit_1 ?_
  refine lv_istore_n (lv' := [(2, .int v_X_rule_place), (0, .ref q_X_rule), (1, .int x1)]) hx hb dX8_parseUnit_4 rfl hl (by decide) rfl (fun ls hl => ?_)
  exact B5 zF v_X_rule_place v_X_rule_size v_X_rule_place v_X_rule_fault a_X_rule_row _ _ _ (lv_sub hl [1, 2, 0] rfl) hP hD hS hg

/-! SpokenClock$Rule.parseOperand(I)V -/
abbrev ws_X8_parseOperand (cI cJ cZ cA : ClassId) (q_X_rule q_X_now q_X_now_rule q_X_now_rule_cells q_X_rule_row : Nat) (u_X_rule_stack : Value) (u_X_rule_known : Value) (u_X_rule_isStale : Value) (u_X_now_people : Value) (u_X_now_talks : Value) (u_X_now_dues : Value) (u_X_now_sights : Value) (u_X_now_settings : Value) (u_X_now_stake : Value) (u_X_now_rule_limit : Value) (N_X_now_rule_cells : Nat) (v_X_rule_size : Int32) (v_X_rule_place : Int32) (v_X_rule_fault : Int32) (v_X_now_rule_width : Int32) (v_X_now_rule_size : Int32) (a_X_now_rule_cells : Nat → Int32) (a_X_rule_row : Nat → Int32) : va_W := [(q_X_rule, .inr (8, [.ref q_X_now, .ref q_X_rule_row, u_X_rule_stack, u_X_rule_known, .int v_X_rule_size, .int v_X_rule_place, .int v_X_rule_fault, u_X_rule_isStale])), (q_X_now, .inr (9, [u_X_now_people, u_X_now_talks, u_X_now_dues, u_X_now_sights, .ref q_X_now_rule, u_X_now_settings, u_X_now_stake])), (q_X_now_rule, .inr (7, [.int v_X_now_rule_width, u_X_now_rule_limit, .ref q_X_now_rule_cells, .int v_X_now_rule_size])), (q_X_now_rule_cells, .inl (cI, N_X_now_rule_cells, .inl a_X_now_rule_cells)), (q_X_rule_row, .inl (cI, 40, .inl a_X_rule_row))]
def g_X8_parseOperand_122 (N_X_now_rule_cells : Nat) (v_X_now_rule_width : Int32) (v_X_now_rule_size : Int32) (a_X_now_rule_cells : Nat → Int32) (x1 : Int32) (rec : Nat → Int32 → Int32 → Int32 → Int32 → Int32 → (Nat → Int32) → Option (Int32 × Int32 × Int32 × (Nat → Int32))) (v_X_rule_size : Int32) (v_X_rule_place : Int32) (v_X_rule_fault : Int32) (a_X_rule_row : Nat → Int32) : Option (Int32 × Int32 × Int32 × (Nat → Int32)) :=
  some (v_X_rule_size, v_X_rule_place + 1, v_X_rule_fault, a_X_rule_row)
def g_X8_parseOperand (N_X_now_rule_cells : Nat) (v_X_now_rule_width : Int32) (v_X_now_rule_size : Int32) (a_X_now_rule_cells : Nat → Int32) (x1 : Int32) (rec : Nat → Int32 → Int32 → Int32 → Int32 → Int32 → (Nat → Int32) → Option (Int32 × Int32 × Int32 × (Nat → Int32))) (v_X_rule_size : Int32) (v_X_rule_place : Int32) (v_X_rule_fault : Int32) (a_X_rule_row : Nat → Int32) : Option (Int32 × Int32 × Int32 × (Nat → Int32)) :=
  (g_X8_ahead N_X_now_rule_cells v_X_now_rule_width v_X_now_rule_size a_X_now_rule_cells v_X_rule_place).bind fun v1 =>
  (g_X8_isDigit v1.1).bind fun v3 =>
  if v3 = 0 then (
    (g_X8_nameOf v1.1).bind fun v5 =>
    if v5 = (-1) then (
      if v1.1 = 40 then (
        if x1 < 8 then (
          (rec 0 0 (x1 + 1) v_X_rule_size (v1.2 + 1) v_X_rule_fault a_X_rule_row).bind fun v7 =>
          (g_X8_ahead N_X_now_rule_cells v_X_now_rule_width v_X_now_rule_size a_X_now_rule_cells v7.2.1).bind fun v9 =>
          if v9.1 = 41 then (
            g_X8_parseOperand_122 N_X_now_rule_cells v_X_now_rule_width v_X_now_rule_size a_X_now_rule_cells x1 rec v7.1 v9.2 v7.2.2.1 v7.2.2.2
          ) else (
            (g_X8_stop v9.2 1 v7.2.2.1).bind fun v11 =>
            g_X8_parseOperand_122 N_X_now_rule_cells v_X_now_rule_width v_X_now_rule_size a_X_now_rule_cells x1 rec v7.1 v9.2 v11 v7.2.2.2
          )
        ) else (
          (g_X8_stop v1.2 3 v_X_rule_fault).bind fun v13 =>
          some (v_X_rule_size, v1.2, v13, a_X_rule_row)
        )
      ) else (
        (g_X8_stop v1.2 1 v_X_rule_fault).bind fun v15 =>
        some (v_X_rule_size, v1.2, v15, a_X_rule_row)
      )
    ) else (
      (g_X8_nameOf v1.1).bind fun v17 =>
      (g_X8_emit v_X_rule_fault ((-1) - v17) v_X_rule_size a_X_rule_row).bind fun v19 =>
      some (v19.1, v1.2 + 1, v_X_rule_fault, v19.2)
    )
  ) else (
    (g_X8_parseNumber N_X_now_rule_cells v_X_now_rule_width v_X_now_rule_size a_X_now_rule_cells v_X_rule_size v1.2 v_X_rule_fault a_X_rule_row).bind fun v21 =>
    some (v21.1, v21.2.1, v21.2.2.1, v21.2.2.2)
  )
set_option maxHeartbeats 4000000 in
set_option maxRecDepth 100000 in
theorem c_X8_parseOperand (l : Launch) (D : va_G) (cI cJ cZ cA : ClassId) (ga : Nat → Nat) (q_X_rule q_X_now q_X_now_rule q_X_now_rule_cells q_X_rule_row : Nat) (u_X_rule_stack : Value) (u_X_rule_known : Value) (u_X_rule_isStale : Value) (u_X_now_people : Value) (u_X_now_talks : Value) (u_X_now_dues : Value) (u_X_now_sights : Value) (u_X_now_settings : Value) (u_X_now_stake : Value) (u_X_now_rule_limit : Value) (N_X_now_rule_cells : Nat) (v_X_rule_size : Int32) (v_X_rule_place : Int32) (v_X_rule_fault : Int32) (v_X_now_rule_width : Int32) (v_X_now_rule_size : Int32) (a_X_now_rule_cells : Nat → Int32) (a_X_rule_row : Nat → Int32) (x1 : Int32) (d : Nat) (rec : Nat → Int32 → Int32 → Int32 → Int32 → Int32 → (Nat → Int32) → Option (Int32 × Int32 × Int32 × (Nat → Int32))) (hrec0 : ∀ (a9 b9 : Int32) (v_X_rule_size : Int32) (v_X_rule_place : Int32) (v_X_rule_fault : Int32) (a_X_rule_row : Nat → Int32) (o : Int32 × Int32 × Int32 × (Nat → Int32)), rec 0 a9 b9 v_X_rule_size v_X_rule_place v_X_rule_fault a_X_rule_row = some o → zM l yX8_parseLevel (Cond.code yX8_parseLevel cX8_parseLevel 6 none :: wsL_law) (rmr_X8 d) D (zTy cI cJ cZ cA) ga [.ref q_X_rule, .int a9, .int b9] (ws_X8_parseOperand cI cJ cZ cA q_X_rule q_X_now q_X_now_rule q_X_now_rule_cells q_X_rule_row u_X_rule_stack u_X_rule_known u_X_rule_isStale u_X_now_people u_X_now_talks u_X_now_dues u_X_now_sights u_X_now_settings u_X_now_stake u_X_now_rule_limit N_X_now_rule_cells v_X_rule_size v_X_rule_place v_X_rule_fault v_X_now_rule_width v_X_now_rule_size a_X_now_rule_cells a_X_rule_row) (ws_X8_parseOperand cI cJ cZ cA q_X_rule q_X_now q_X_now_rule q_X_now_rule_cells q_X_rule_row u_X_rule_stack u_X_rule_known u_X_rule_isStale u_X_now_people u_X_now_talks u_X_now_dues u_X_now_sights u_X_now_settings u_X_now_stake u_X_now_rule_limit N_X_now_rule_cells o.1 o.2.1 o.2.2.1 v_X_now_rule_width v_X_now_rule_size a_X_now_rule_cells o.2.2.2) none) (hrec1 : ∀ (a9 : Int32) (v_X_rule_size : Int32) (v_X_rule_place : Int32) (v_X_rule_fault : Int32) (a_X_rule_row : Nat → Int32) (o : Int32 × Int32 × Int32 × (Nat → Int32)), rec 1 a9 0 v_X_rule_size v_X_rule_place v_X_rule_fault a_X_rule_row = some o → zM l yX8_parseUnit (Cond.code yX8_parseUnit cX8_parseUnit 6 none :: wsL_law) (rmr_X8 d) D (zTy cI cJ cZ cA) ga [.ref q_X_rule, .int a9] (ws_X8_parseOperand cI cJ cZ cA q_X_rule q_X_now q_X_now_rule q_X_now_rule_cells q_X_rule_row u_X_rule_stack u_X_rule_known u_X_rule_isStale u_X_now_people u_X_now_talks u_X_now_dues u_X_now_sights u_X_now_settings u_X_now_stake u_X_now_rule_limit N_X_now_rule_cells v_X_rule_size v_X_rule_place v_X_rule_fault v_X_now_rule_width v_X_now_rule_size a_X_now_rule_cells a_X_rule_row) (ws_X8_parseOperand cI cJ cZ cA q_X_rule q_X_now q_X_now_rule q_X_now_rule_cells q_X_rule_row u_X_rule_stack u_X_rule_known u_X_rule_isStale u_X_now_people u_X_now_talks u_X_now_dues u_X_now_sights u_X_now_settings u_X_now_stake u_X_now_rule_limit N_X_now_rule_cells o.1 o.2.1 o.2.2.1 v_X_now_rule_width v_X_now_rule_size a_X_now_rule_cells o.2.2.2) none) (hrec2 : ∀ (a9 : Int32) (v_X_rule_size : Int32) (v_X_rule_place : Int32) (v_X_rule_fault : Int32) (a_X_rule_row : Nat → Int32) (o : Int32 × Int32 × Int32 × (Nat → Int32)), rec 2 a9 0 v_X_rule_size v_X_rule_place v_X_rule_fault a_X_rule_row = some o → zM l yX8_parseOperand (Cond.code yX8_parseOperand cX8_parseOperand 3 none :: wsL_law) (rmr_X8 d) D (zTy cI cJ cZ cA) ga [.ref q_X_rule, .int a9] (ws_X8_parseOperand cI cJ cZ cA q_X_rule q_X_now q_X_now_rule q_X_now_rule_cells q_X_rule_row u_X_rule_stack u_X_rule_known u_X_rule_isStale u_X_now_people u_X_now_talks u_X_now_dues u_X_now_sights u_X_now_settings u_X_now_stake u_X_now_rule_limit N_X_now_rule_cells v_X_rule_size v_X_rule_place v_X_rule_fault v_X_now_rule_width v_X_now_rule_size a_X_now_rule_cells a_X_rule_row) (ws_X8_parseOperand cI cJ cZ cA q_X_rule q_X_now q_X_now_rule q_X_now_rule_cells q_X_rule_row u_X_rule_stack u_X_rule_known u_X_rule_isStale u_X_now_people u_X_now_talks u_X_now_dues u_X_now_sights u_X_now_settings u_X_now_stake u_X_now_rule_limit N_X_now_rule_cells o.1 o.2.1 o.2.2.1 v_X_now_rule_width v_X_now_rule_size a_X_now_rule_cells o.2.2.2) none) (o : Int32 × Int32 × Int32 × (Nat → Int32)) (hg : g_X8_parseOperand N_X_now_rule_cells v_X_now_rule_width v_X_now_rule_size a_X_now_rule_cells x1 rec v_X_rule_size v_X_rule_place v_X_rule_fault a_X_rule_row = some o) : zM l yX8_parseOperand (Cond.code yX8_parseOperand cX8_parseOperand 3 none :: wsL_law) (rmr_X8 (d + 1)) D (zTy cI cJ cZ cA) ga [.ref q_X_rule, .int x1] (ws_X8_parseOperand cI cJ cZ cA q_X_rule q_X_now q_X_now_rule q_X_now_rule_cells q_X_rule_row u_X_rule_stack u_X_rule_known u_X_rule_isStale u_X_now_people u_X_now_talks u_X_now_dues u_X_now_sights u_X_now_settings u_X_now_stake u_X_now_rule_limit N_X_now_rule_cells v_X_rule_size v_X_rule_place v_X_rule_fault v_X_now_rule_width v_X_now_rule_size a_X_now_rule_cells a_X_rule_row) (ws_X8_parseOperand cI cJ cZ cA q_X_rule q_X_now q_X_now_rule q_X_now_rule_cells q_X_rule_row u_X_rule_stack u_X_rule_known u_X_rule_isStale u_X_now_people u_X_now_talks u_X_now_dues u_X_now_sights u_X_now_settings u_X_now_stake u_X_now_rule_limit N_X_now_rule_cells o.1 o.2.1 o.2.2.1 v_X_now_rule_width v_X_now_rule_size a_X_now_rule_cells o.2.2.2) none := by
  refine zenterV (own := RX8) (by decide) rfl rfl (Nat.le_of_ble_eq_true rfl) ?_
  intro p e s m args below meth c A ls Q S hA hK hG hl hP hD hS hret0
  have hx := S.1
  have hb := S.2.1
  have ht : ∀ w, w ∈ wsL_law → w.before args s = true := fun w h => S.2.2.2.2 w (List.mem_cons_of_mem _ h)
  have hret : ∀ (v_X_rule_size : Int32) (v_X_rule_place : Int32) (v_X_rule_fault : Int32) (a_X_rule_row : Nat → Int32), (some (v_X_rule_size, v_X_rule_place, v_X_rule_fault, a_X_rule_row) : Option (Int32 × Int32 × Int32 × (Nat → Int32))) = some o → ∀ (H : Heap) (locs : List Loc) (pc : Nat) (ls : Array Slot), va_P D vwCl (ws_X8_parseOperand cI cJ cZ cA q_X_rule q_X_now q_X_now_rule q_X_now_rule_cells q_X_rule_row u_X_rule_stack u_X_rule_known u_X_rule_isStale u_X_now_people u_X_now_talks u_X_now_dues u_X_now_sights u_X_now_settings u_X_now_stake u_X_now_rule_limit N_X_now_rule_cells v_X_rule_size v_X_rule_place v_X_rule_fault v_X_now_rule_width v_X_now_rule_size a_X_now_rule_cells a_X_rule_row) H → va_S A s.heap H locs → decode cX8_parseOperand pc = .ok (.return_, 1) → W p l e (rmr_X8 (d + 1)) s m args below meth c H locs 0 0 Q (F0 m pc ls []) := by
    intro v_X_rule_size v_X_rule_place v_X_rule_fault a_X_rule_row he; cases he; exact hret0
  have hl : lv_has ls 3 [(0, .ref q_X_rule), (1, .int x1)] := hl
  have B122 : ∀ (v_X_rule_size : Int32) (v_X_rule_place : Int32) (v_X_rule_fault : Int32) (a_X_rule_row : Nat → Int32) (H : Heap) (locs : List Loc) (ls : Array Slot) (hl : lv_has ls 3 [(0, .ref q_X_rule)]) (hP : va_P D vwCl (ws_X8_parseOperand cI cJ cZ cA q_X_rule q_X_now q_X_now_rule q_X_now_rule_cells q_X_rule_row u_X_rule_stack u_X_rule_known u_X_rule_isStale u_X_now_people u_X_now_talks u_X_now_dues u_X_now_sights u_X_now_settings u_X_now_stake u_X_now_rule_limit N_X_now_rule_cells v_X_rule_size v_X_rule_place v_X_rule_fault v_X_now_rule_width v_X_now_rule_size a_X_now_rule_cells a_X_rule_row) H) (hD : va_D A (ws_X8_parseOperand cI cJ cZ cA q_X_rule q_X_now q_X_now_rule q_X_now_rule_cells q_X_rule_row u_X_rule_stack u_X_rule_known u_X_rule_isStale u_X_now_people u_X_now_talks u_X_now_dues u_X_now_sights u_X_now_settings u_X_now_stake u_X_now_rule_limit N_X_now_rule_cells v_X_rule_size v_X_rule_place v_X_rule_fault v_X_now_rule_width v_X_now_rule_size a_X_now_rule_cells a_X_rule_row)) (hS : va_S A s.heap H locs), g_X8_parseOperand_122 N_X_now_rule_cells v_X_now_rule_width v_X_now_rule_size a_X_now_rule_cells x1 rec v_X_rule_size v_X_rule_place v_X_rule_fault a_X_rule_row = some o → W p l e (rmr_X8 (d + 1)) s m args below meth c H locs 0 0 Q (F0 m 122 ls []) := by
    intro  v_X_rule_size v_X_rule_place v_X_rule_fault a_X_rule_row H locs ls hl hP hD hS hg
    refine lv_aload_n hx hb dX8_parseOperand_122 rfl (lv_at hl 0 rfl) ?_
    refine lv_dup hx hb dX8_parseOperand_123 rfl ?_
    refine zget (C := RX8) (T := TX8) (N := 8) S hK hP 0 rfl rfl 5 (Nat.le_of_ble_eq_true rfl) zf_8 zw_538 rfl dX8_parseOperand_124 ?_
    refine lv_iconst (v := 1) hx hb dX8_parseOperand_127 (by decide) ?_
    refine lv_iadd hx hb dX8_parseOperand_128 ?_
    refine zputf (C := RX8) (T := TX8) (N := 8) (ty := .int) S hK hP hD hS 0 rfl rfl 5 (Nat.le_of_ble_eq_true rfl) zf_8 tyX8 tyX8_ok nmX8 zw_538 rfl (by decide +kernel) rfl rfl (Nat.le_of_ble_eq_true rfl) dX8_parseOperand_129 (w2 := (ws_X8_parseOperand cI cJ cZ cA q_X_rule q_X_now q_X_now_rule q_X_now_rule_cells q_X_rule_row u_X_rule_stack u_X_rule_known u_X_rule_isStale u_X_now_people u_X_now_talks u_X_now_dues u_X_now_sights u_X_now_settings u_X_now_stake u_X_now_rule_limit N_X_now_rule_cells v_X_rule_size (v_X_rule_place + 1) v_X_rule_fault v_X_now_rule_width v_X_now_rule_size a_X_now_rule_cells a_X_rule_row)) rfl (fun H locs hP hD hS => ?_)
    exact hret v_X_rule_size (v_X_rule_place + 1) v_X_rule_fault a_X_rule_row hg _ _ _ _ hP hS dX8_parseOperand_132
  refine lv_aload_n hx hb dX8_parseOperand_0 rfl (lv_at hl 0 rfl) ?_
  obtain ⟨v1, hc2, hg⟩ := zbd hg
  refine zcallV (rest := []) S (c_X8_ahead l D cI cJ cZ cA ga q_X_rule q_X_now q_X_now_rule q_X_now_rule_cells (.ref q_X_rule_row) u_X_rule_stack u_X_rule_known (.int v_X_rule_size) (.int v_X_rule_fault) u_X_rule_isStale u_X_now_people u_X_now_talks u_X_now_dues u_X_now_sights u_X_now_settings u_X_now_stake u_X_now_rule_limit N_X_now_rule_cells v_X_rule_place v_X_now_rule_width v_X_now_rule_size a_X_now_rule_cells v1 hc2) (zgV zw_547 zw_548 zw_549 zw_35 zw_550) rfl hd_X8_ahead ⟨rfl, rfl⟩ ⟨by simp only [rm_X8_ahead, rmr_X8]; omega, by simp only [rm_X8_ahead, rmr_X8]; omega⟩ 0 8 rfl rfl rfl hl.1 rfl (Nat.le_of_ble_eq_true rfl) dX8_parseOperand_1 hP hD hS hA hK hG (isC := [0, 1, 2, 3]) rfl (by decide +kernel) rfl ⟨Nat.zero_le _, Nat.zero_le _⟩ (pl := [some 0, some 1, some 2, some 3, none]) (nw := 5) rfl (by decide +kernel) (w2 := (ws_X8_parseOperand cI cJ cZ cA q_X_rule q_X_now q_X_now_rule q_X_now_rule_cells q_X_rule_row u_X_rule_stack u_X_rule_known u_X_rule_isStale u_X_now_people u_X_now_talks u_X_now_dues u_X_now_sights u_X_now_settings u_X_now_stake u_X_now_rule_limit N_X_now_rule_cells v_X_rule_size v1.2 v_X_rule_fault v_X_now_rule_width v_X_now_rule_size a_X_now_rule_cells a_X_rule_row)) rfl (st1 := [.int v1.1]) rfl (fun H locs hP hD hS => ?_)
  refine lv_istore_n (lv' := [(2, .int v1.1), (0, .ref q_X_rule), (1, .int x1)]) hx hb dX8_parseOperand_4 rfl hl (by decide) rfl (fun ls hl => ?_)
  refine lv_iload_n hx hb dX8_parseOperand_5 rfl (lv_at hl 0 rfl) ?_
  obtain ⟨v3, hc4, hg⟩ := zbd hg
  refine zcallS (rest := []) S (c_X8_isDigit l D cI cJ cZ cA ga v1.1 v3 hc4) (zgS zw_562 zw_563 zw_35 zw_564) rfl hd_X8_isDigit ⟨rfl, rfl⟩ ⟨by simp only [rm_X8_isDigit, rmr_X8]; omega, by simp only [rm_X8_isDigit, rmr_X8]; omega⟩ rfl hl.1 rfl (Nat.le_of_ble_eq_true rfl) dX8_parseOperand_6 hP hD hS hA hK hG (isC := []) rfl (by decide +kernel) rfl ⟨Nat.zero_le _, Nat.zero_le _⟩ (pl := [none, none, none, none, none]) (nw := 5) rfl (by decide +kernel) (w2 := (ws_X8_parseOperand cI cJ cZ cA q_X_rule q_X_now q_X_now_rule q_X_now_rule_cells q_X_rule_row u_X_rule_stack u_X_rule_known u_X_rule_isStale u_X_now_people u_X_now_talks u_X_now_dues u_X_now_sights u_X_now_settings u_X_now_stake u_X_now_rule_limit N_X_now_rule_cells v_X_rule_size v1.2 v_X_rule_fault v_X_now_rule_width v_X_now_rule_size a_X_now_rule_cells a_X_rule_row)) rfl (st1 := [.int v3]) rfl (fun H locs hP hD hS => ?_)
  refine lv_if_eq (tgt := 19) hx hb dX8_parseOperand_9 (by decide) (fun h9 => ?_) (fun h9 => ?_)
  · have hg := zp hg h9
    refine lv_iload_n hx hb dX8_parseOperand_19 rfl (lv_at hl 0 rfl) ?_
    obtain ⟨v5, hc6, hg⟩ := zbd hg
    refine zcallS (rest := []) S (c_X8_nameOf l D cI cJ cZ cA ga v1.1 v5 hc6) (zgS zw_573 zw_574 zw_35 zw_575) rfl hd_X8_nameOf ⟨rfl, rfl⟩ ⟨by simp only [rm_X8_nameOf, rmr_X8]; omega, by simp only [rm_X8_nameOf, rmr_X8]; omega⟩ rfl hl.1 rfl (Nat.le_of_ble_eq_true rfl) dX8_parseOperand_20 hP hD hS hA hK hG (isC := []) rfl (by decide +kernel) rfl ⟨Nat.zero_le _, Nat.zero_le _⟩ (pl := [none, none, none, none, none]) (nw := 5) rfl (by decide +kernel) (w2 := (ws_X8_parseOperand cI cJ cZ cA q_X_rule q_X_now q_X_now_rule q_X_now_rule_cells q_X_rule_row u_X_rule_stack u_X_rule_known u_X_rule_isStale u_X_now_people u_X_now_talks u_X_now_dues u_X_now_sights u_X_now_settings u_X_now_stake u_X_now_rule_limit N_X_now_rule_cells v_X_rule_size v1.2 v_X_rule_fault v_X_now_rule_width v_X_now_rule_size a_X_now_rule_cells a_X_rule_row)) rfl (st1 := [.int v5]) rfl (fun H locs hP hD hS => ?_)
    refine lv_iconst (v := (-1)) hx hb dX8_parseOperand_23 (by decide) ?_
    refine lv_icmp_eq (tgt := 50) hx hb dX8_parseOperand_24 (by decide) (fun h24 => ?_) (fun h24 => ?_)
    · have hg := zp hg h24
      refine lv_iload_n hx hb dX8_parseOperand_50 rfl (lv_at hl 0 rfl) ?_
      refine lv_bipush (v := 40) hx hb dX8_parseOperand_51 (by decide) ?_
      refine lv_icmp_eq (tgt := 68) hx hb dX8_parseOperand_53 (by decide) (fun h53 => ?_) (fun h53 => ?_)
      · have hg := zp hg h53
        refine lv_iload_n hx hb dX8_parseOperand_68 rfl (lv_at hl 2 rfl) ?_
        refine lv_bipush (v := 8) hx hb dX8_parseOperand_69 (by decide) ?_
        refine lv_icmp_lt (tgt := 86) hx hb dX8_parseOperand_71 (by decide) (fun h71 => ?_) (fun h71 => ?_)
        · have hg := zp hg h71
          refine lv_aload_n hx hb dX8_parseOperand_86 rfl (lv_at hl 1 rfl) ?_
          refine lv_dup hx hb dX8_parseOperand_87 rfl ?_
          refine zget (C := RX8) (T := TX8) (N := 8) S hK hP 0 rfl rfl 5 (Nat.le_of_ble_eq_true rfl) zf_8 zw_538 rfl dX8_parseOperand_88 ?_
          refine lv_iconst (v := 1) hx hb dX8_parseOperand_91 (by decide) ?_
          refine lv_iadd hx hb dX8_parseOperand_92 ?_
          refine zputf (C := RX8) (T := TX8) (N := 8) (ty := .int) S hK hP hD hS 0 rfl rfl 5 (Nat.le_of_ble_eq_true rfl) zf_8 tyX8 tyX8_ok nmX8 zw_538 rfl (by decide +kernel) rfl rfl (Nat.le_of_ble_eq_true rfl) dX8_parseOperand_93 (w2 := (ws_X8_parseOperand cI cJ cZ cA q_X_rule q_X_now q_X_now_rule q_X_now_rule_cells q_X_rule_row u_X_rule_stack u_X_rule_known u_X_rule_isStale u_X_now_people u_X_now_talks u_X_now_dues u_X_now_sights u_X_now_settings u_X_now_stake u_X_now_rule_limit N_X_now_rule_cells v_X_rule_size (v1.2 + 1) v_X_rule_fault v_X_now_rule_width v_X_now_rule_size a_X_now_rule_cells a_X_rule_row)) rfl (fun H locs hP hD hS => ?_)
          refine lv_aload_n hx hb dX8_parseOperand_96 rfl (lv_at hl 1 rfl) ?_
          refine lv_iconst (v := 0) hx hb dX8_parseOperand_97 (by decide) ?_
          refine lv_iload_n hx hb dX8_parseOperand_98 rfl (lv_at hl 2 rfl) ?_
          refine lv_iconst (v := 1) hx hb dX8_parseOperand_99 (by decide) ?_
          refine lv_iadd hx hb dX8_parseOperand_100 ?_
          obtain ⟨v7, hc8, hg⟩ := zbd hg
          refine zcallV (rest := []) S (hrec0 0 (x1 + 1) v_X_rule_size (v1.2 + 1) v_X_rule_fault a_X_rule_row v7 hc8) (zgV zw_540 zw_541 zw_542 zw_35 zw_543) rfl hd_X8_parseLevel ⟨rfl, rfl⟩ ⟨by simp only [rmr_X8]; omega, by simp only [rmr_X8]; omega⟩ 0 8 rfl rfl rfl hl.1 rfl (Nat.le_of_ble_eq_true rfl) dX8_parseOperand_101 hP hD hS hA hK hG (isC := [0, 1, 2, 3, 4]) rfl (by decide +kernel) rfl ⟨Nat.zero_le _, Nat.zero_le _⟩ (pl := [some 0, some 1, some 2, some 3, some 4]) (nw := 5) rfl (by decide +kernel) (w2 := (ws_X8_parseOperand cI cJ cZ cA q_X_rule q_X_now q_X_now_rule q_X_now_rule_cells q_X_rule_row u_X_rule_stack u_X_rule_known u_X_rule_isStale u_X_now_people u_X_now_talks u_X_now_dues u_X_now_sights u_X_now_settings u_X_now_stake u_X_now_rule_limit N_X_now_rule_cells v7.1 v7.2.1 v7.2.2.1 v_X_now_rule_width v_X_now_rule_size a_X_now_rule_cells v7.2.2.2)) rfl (st1 := []) rfl (fun H locs hP hD hS => ?_)
          refine lv_aload_n hx hb dX8_parseOperand_104 rfl (lv_at hl 1 rfl) ?_
          obtain ⟨v9, hc10, hg⟩ := zbd hg
          refine zcallV (rest := []) S (c_X8_ahead l D cI cJ cZ cA ga q_X_rule q_X_now q_X_now_rule q_X_now_rule_cells (.ref q_X_rule_row) u_X_rule_stack u_X_rule_known (.int v7.1) (.int v7.2.2.1) u_X_rule_isStale u_X_now_people u_X_now_talks u_X_now_dues u_X_now_sights u_X_now_settings u_X_now_stake u_X_now_rule_limit N_X_now_rule_cells v7.2.1 v_X_now_rule_width v_X_now_rule_size a_X_now_rule_cells v9 hc10) (zgV zw_547 zw_548 zw_549 zw_35 zw_550) rfl hd_X8_ahead ⟨rfl, rfl⟩ ⟨by simp only [rm_X8_ahead, rmr_X8]; omega, by simp only [rm_X8_ahead, rmr_X8]; omega⟩ 0 8 rfl rfl rfl hl.1 rfl (Nat.le_of_ble_eq_true rfl) dX8_parseOperand_105 hP hD hS hA hK hG (isC := [0, 1, 2, 3]) rfl (by decide +kernel) rfl ⟨Nat.zero_le _, Nat.zero_le _⟩ (pl := [some 0, some 1, some 2, some 3, none]) (nw := 5) rfl (by decide +kernel) (w2 := (ws_X8_parseOperand cI cJ cZ cA q_X_rule q_X_now q_X_now_rule q_X_now_rule_cells q_X_rule_row u_X_rule_stack u_X_rule_known u_X_rule_isStale u_X_now_people u_X_now_talks u_X_now_dues u_X_now_sights u_X_now_settings u_X_now_stake u_X_now_rule_limit N_X_now_rule_cells v7.1 v9.2 v7.2.2.1 v_X_now_rule_width v_X_now_rule_size a_X_now_rule_cells v7.2.2.2)) rfl (st1 := [.int v9.1]) rfl (fun H locs hP hD hS => ?_)
          refine lv_bipush (v := 41) hx hb dX8_parseOperand_108 (by decide) ?_
          refine lv_icmp_eq (tgt := 122) hx hb dX8_parseOperand_110 (by decide) (fun h110 => ?_) (fun h110 => ?_)
          · have hg := zp hg h110
            exact B122 v7.1 v9.2 v7.2.2.1 v7.2.2.2 _ _ _ (lv_sub hl [1] rfl) hP hD hS hg
          · have hg := zn hg h110
            refine lv_aload_n hx hb dX8_parseOperand_113 rfl (lv_at hl 1 rfl) ?_
            refine lv_aload_n hx hb dX8_parseOperand_114 rfl (lv_at hl 1 rfl) ?_
            refine zget (C := RX8) (T := TX8) (N := 8) S hK hP 0 rfl rfl 5 (Nat.le_of_ble_eq_true rfl) zf_8 zw_538 rfl dX8_parseOperand_115 ?_
            refine lv_iconst (v := 1) hx hb dX8_parseOperand_118 (by decide) ?_
            obtain ⟨v11, hc12, hg⟩ := zbd hg
            refine zcallV (rest := []) S (c_X8_stop l D cI cJ cZ cA ga q_X_rule (.ref q_X_now) (.ref q_X_rule_row) u_X_rule_stack u_X_rule_known (.int v7.1) (.int v9.2) u_X_rule_isStale v7.2.2.1 v9.2 1 v11 hc12) (zgV zw_569 zw_570 zw_571 zw_35 zw_572) rfl hd_X8_stop ⟨rfl, rfl⟩ ⟨by simp only [rm_X8_stop, rmr_X8]; omega, by simp only [rm_X8_stop, rmr_X8]; omega⟩ 0 8 rfl rfl rfl hl.1 rfl (Nat.le_of_ble_eq_true rfl) dX8_parseOperand_119 hP hD hS hA hK hG (isC := [0]) rfl (by decide +kernel) rfl ⟨Nat.zero_le _, Nat.zero_le _⟩ (pl := [some 0, none, none, none, none]) (nw := 5) rfl (by decide +kernel) (w2 := (ws_X8_parseOperand cI cJ cZ cA q_X_rule q_X_now q_X_now_rule q_X_now_rule_cells q_X_rule_row u_X_rule_stack u_X_rule_known u_X_rule_isStale u_X_now_people u_X_now_talks u_X_now_dues u_X_now_sights u_X_now_settings u_X_now_stake u_X_now_rule_limit N_X_now_rule_cells v7.1 v9.2 v11 v_X_now_rule_width v_X_now_rule_size a_X_now_rule_cells v7.2.2.2)) rfl (st1 := []) rfl (fun H locs hP hD hS => ?_)
            exact B122 v7.1 v9.2 v11 v7.2.2.2 _ _ _ (lv_sub hl [1] rfl) hP hD hS hg
        · have hg := zn hg h71
          refine lv_aload_n hx hb dX8_parseOperand_74 rfl (lv_at hl 1 rfl) ?_
          refine lv_aload_n hx hb dX8_parseOperand_75 rfl (lv_at hl 1 rfl) ?_
          refine zget (C := RX8) (T := TX8) (N := 8) S hK hP 0 rfl rfl 5 (Nat.le_of_ble_eq_true rfl) zf_8 zw_538 rfl dX8_parseOperand_76 ?_
          refine lv_iconst (v := 3) hx hb dX8_parseOperand_79 (by decide) ?_
          obtain ⟨v13, hc14, hg⟩ := zbd hg
          refine zcallV (rest := []) S (c_X8_stop l D cI cJ cZ cA ga q_X_rule (.ref q_X_now) (.ref q_X_rule_row) u_X_rule_stack u_X_rule_known (.int v_X_rule_size) (.int v1.2) u_X_rule_isStale v_X_rule_fault v1.2 3 v13 hc14) (zgV zw_569 zw_570 zw_571 zw_35 zw_572) rfl hd_X8_stop ⟨rfl, rfl⟩ ⟨by simp only [rm_X8_stop, rmr_X8]; omega, by simp only [rm_X8_stop, rmr_X8]; omega⟩ 0 8 rfl rfl rfl hl.1 rfl (Nat.le_of_ble_eq_true rfl) dX8_parseOperand_80 hP hD hS hA hK hG (isC := [0]) rfl (by decide +kernel) rfl ⟨Nat.zero_le _, Nat.zero_le _⟩ (pl := [some 0, none, none, none, none]) (nw := 5) rfl (by decide +kernel) (w2 := (ws_X8_parseOperand cI cJ cZ cA q_X_rule q_X_now q_X_now_rule q_X_now_rule_cells q_X_rule_row u_X_rule_stack u_X_rule_known u_X_rule_isStale u_X_now_people u_X_now_talks u_X_now_dues u_X_now_sights u_X_now_settings u_X_now_stake u_X_now_rule_limit N_X_now_rule_cells v_X_rule_size v1.2 v13 v_X_now_rule_width v_X_now_rule_size a_X_now_rule_cells a_X_rule_row)) rfl (st1 := []) rfl (fun H locs hP hD hS => ?_)
          refine lv_goto (tgt := 132) hx hb dX8_parseOperand_83 (by decide) ?_
          exact hret v_X_rule_size v1.2 v13 a_X_rule_row hg _ _ _ _ hP hS dX8_parseOperand_132
      · have hg := zn hg h53
        refine lv_aload_n hx hb dX8_parseOperand_56 rfl (lv_at hl 1 rfl) ?_
        refine lv_aload_n hx hb dX8_parseOperand_57 rfl (lv_at hl 1 rfl) ?_
        refine zget (C := RX8) (T := TX8) (N := 8) S hK hP 0 rfl rfl 5 (Nat.le_of_ble_eq_true rfl) zf_8 zw_538 rfl dX8_parseOperand_58 ?_
        refine lv_iconst (v := 1) hx hb dX8_parseOperand_61 (by decide) ?_
        obtain ⟨v15, hc16, hg⟩ := zbd hg
        refine zcallV (rest := []) S (c_X8_stop l D cI cJ cZ cA ga q_X_rule (.ref q_X_now) (.ref q_X_rule_row) u_X_rule_stack u_X_rule_known (.int v_X_rule_size) (.int v1.2) u_X_rule_isStale v_X_rule_fault v1.2 1 v15 hc16) (zgV zw_569 zw_570 zw_571 zw_35 zw_572) rfl hd_X8_stop ⟨rfl, rfl⟩ ⟨by simp only [rm_X8_stop, rmr_X8]; omega, by simp only [rm_X8_stop, rmr_X8]; omega⟩ 0 8 rfl rfl rfl hl.1 rfl (Nat.le_of_ble_eq_true rfl) dX8_parseOperand_62 hP hD hS hA hK hG (isC := [0]) rfl (by decide +kernel) rfl ⟨Nat.zero_le _, Nat.zero_le _⟩ (pl := [some 0, none, none, none, none]) (nw := 5) rfl (by decide +kernel) (w2 := (ws_X8_parseOperand cI cJ cZ cA q_X_rule q_X_now q_X_now_rule q_X_now_rule_cells q_X_rule_row u_X_rule_stack u_X_rule_known u_X_rule_isStale u_X_now_people u_X_now_talks u_X_now_dues u_X_now_sights u_X_now_settings u_X_now_stake u_X_now_rule_limit N_X_now_rule_cells v_X_rule_size v1.2 v15 v_X_now_rule_width v_X_now_rule_size a_X_now_rule_cells a_X_rule_row)) rfl (st1 := []) rfl (fun H locs hP hD hS => ?_)
        refine lv_goto (tgt := 132) hx hb dX8_parseOperand_65 (by decide) ?_
        exact hret v_X_rule_size v1.2 v15 a_X_rule_row hg _ _ _ _ hP hS dX8_parseOperand_132
    · have hg := zn hg h24
      refine lv_aload_n hx hb dX8_parseOperand_27 rfl (lv_at hl 1 rfl) ?_
      refine lv_dup hx hb dX8_parseOperand_28 rfl ?_
      refine zget (C := RX8) (T := TX8) (N := 8) S hK hP 0 rfl rfl 5 (Nat.le_of_ble_eq_true rfl) zf_8 zw_538 rfl dX8_parseOperand_29 ?_
      refine lv_iconst (v := 1) hx hb dX8_parseOperand_32 (by decide) ?_
      refine lv_iadd hx hb dX8_parseOperand_33 ?_
      refine zputf (C := RX8) (T := TX8) (N := 8) (ty := .int) S hK hP hD hS 0 rfl rfl 5 (Nat.le_of_ble_eq_true rfl) zf_8 tyX8 tyX8_ok nmX8 zw_538 rfl (by decide +kernel) rfl rfl (Nat.le_of_ble_eq_true rfl) dX8_parseOperand_34 (w2 := (ws_X8_parseOperand cI cJ cZ cA q_X_rule q_X_now q_X_now_rule q_X_now_rule_cells q_X_rule_row u_X_rule_stack u_X_rule_known u_X_rule_isStale u_X_now_people u_X_now_talks u_X_now_dues u_X_now_sights u_X_now_settings u_X_now_stake u_X_now_rule_limit N_X_now_rule_cells v_X_rule_size (v1.2 + 1) v_X_rule_fault v_X_now_rule_width v_X_now_rule_size a_X_now_rule_cells a_X_rule_row)) rfl (fun H locs hP hD hS => ?_)
      refine lv_aload_n hx hb dX8_parseOperand_37 rfl (lv_at hl 1 rfl) ?_
      refine lv_iconst (v := (-1)) hx hb dX8_parseOperand_38 (by decide) ?_
      refine lv_iload_n hx hb dX8_parseOperand_39 rfl (lv_at hl 0 rfl) ?_
      obtain ⟨v17, hc18, hg⟩ := zbd hg
      refine zcallS (rest := [.int (-1), .ref q_X_rule]) S (c_X8_nameOf l D cI cJ cZ cA ga v1.1 v17 hc18) (zgS zw_573 zw_574 zw_35 zw_575) rfl hd_X8_nameOf ⟨rfl, rfl⟩ ⟨by simp only [rm_X8_nameOf, rmr_X8]; omega, by simp only [rm_X8_nameOf, rmr_X8]; omega⟩ rfl hl.1 rfl (Nat.le_of_ble_eq_true rfl) dX8_parseOperand_40 hP hD hS hA hK hG (isC := []) rfl (by decide +kernel) rfl ⟨Nat.zero_le _, Nat.zero_le _⟩ (pl := [none, none, none, none, none]) (nw := 5) rfl (by decide +kernel) (w2 := (ws_X8_parseOperand cI cJ cZ cA q_X_rule q_X_now q_X_now_rule q_X_now_rule_cells q_X_rule_row u_X_rule_stack u_X_rule_known u_X_rule_isStale u_X_now_people u_X_now_talks u_X_now_dues u_X_now_sights u_X_now_settings u_X_now_stake u_X_now_rule_limit N_X_now_rule_cells v_X_rule_size (v1.2 + 1) v_X_rule_fault v_X_now_rule_width v_X_now_rule_size a_X_now_rule_cells a_X_rule_row)) rfl (st1 := [.int v17, .int (-1), .ref q_X_rule]) rfl (fun H locs hP hD hS => ?_)
      refine lv_isub hx hb dX8_parseOperand_43 ?_
      obtain ⟨v19, hc20, hg⟩ := zbd hg
      refine zcallV (rest := []) S (c_X8_emit l D cI cJ cZ cA ga q_X_rule q_X_rule_row (.ref q_X_now) u_X_rule_stack u_X_rule_known (.int (v1.2 + 1)) u_X_rule_isStale v_X_rule_size v_X_rule_fault a_X_rule_row ((-1) - v17) v19 hc20) (zgV zw_557 zw_558 zw_559 zw_35 zw_560) rfl hd_X8_emit ⟨rfl, rfl⟩ ⟨by simp only [rm_X8_emit, rmr_X8]; omega, by simp only [rm_X8_emit, rmr_X8]; omega⟩ 0 8 rfl rfl rfl hl.1 rfl (Nat.le_of_ble_eq_true rfl) dX8_parseOperand_44 hP hD hS hA hK hG (isC := [0, 4]) rfl (by decide +kernel) rfl ⟨Nat.zero_le _, Nat.zero_le _⟩ (pl := [some 0, none, none, none, some 1]) (nw := 5) rfl (by decide +kernel) (w2 := (ws_X8_parseOperand cI cJ cZ cA q_X_rule q_X_now q_X_now_rule q_X_now_rule_cells q_X_rule_row u_X_rule_stack u_X_rule_known u_X_rule_isStale u_X_now_people u_X_now_talks u_X_now_dues u_X_now_sights u_X_now_settings u_X_now_stake u_X_now_rule_limit N_X_now_rule_cells v19.1 (v1.2 + 1) v_X_rule_fault v_X_now_rule_width v_X_now_rule_size a_X_now_rule_cells v19.2)) rfl (st1 := []) rfl (fun H locs hP hD hS => ?_)
      refine lv_goto (tgt := 132) hx hb dX8_parseOperand_47 (by decide) ?_
      exact hret v19.1 (v1.2 + 1) v_X_rule_fault v19.2 hg _ _ _ _ hP hS dX8_parseOperand_132
  · have hg := zn hg h9
    refine lv_aload_n hx hb dX8_parseOperand_12 rfl (lv_at hl 1 rfl) ?_
    obtain ⟨v21, hc22, hg⟩ := zbd hg
    refine zcallV (rest := []) S (c_X8_parseNumber l D cI cJ cZ cA ga q_X_rule q_X_now q_X_now_rule q_X_rule_row q_X_now_rule_cells u_X_rule_stack u_X_rule_known u_X_rule_isStale u_X_now_people u_X_now_talks u_X_now_dues u_X_now_sights u_X_now_settings u_X_now_stake u_X_now_rule_limit N_X_now_rule_cells v_X_rule_size v1.2 v_X_rule_fault v_X_now_rule_width v_X_now_rule_size a_X_rule_row a_X_now_rule_cells v21 hc22) (zgV zw_565 zw_566 zw_567 zw_35 zw_568) rfl hd_X8_parseNumber ⟨rfl, rfl⟩ ⟨by simp only [rm_X8_parseNumber, rmr_X8]; omega, by simp only [rm_X8_parseNumber, rmr_X8]; omega⟩ 0 8 rfl rfl rfl hl.1 rfl (Nat.le_of_ble_eq_true rfl) dX8_parseOperand_13 hP hD hS hA hK hG (isC := [0, 1, 2, 4, 3]) rfl (by decide +kernel) rfl ⟨Nat.zero_le _, Nat.zero_le _⟩ (pl := [some 0, some 1, some 2, some 4, some 3]) (nw := 5) rfl (by decide +kernel) (w2 := (ws_X8_parseOperand cI cJ cZ cA q_X_rule q_X_now q_X_now_rule q_X_now_rule_cells q_X_rule_row u_X_rule_stack u_X_rule_known u_X_rule_isStale u_X_now_people u_X_now_talks u_X_now_dues u_X_now_sights u_X_now_settings u_X_now_stake u_X_now_rule_limit N_X_now_rule_cells v21.1 v21.2.1 v21.2.2.1 v_X_now_rule_width v_X_now_rule_size a_X_now_rule_cells v21.2.2.2)) rfl (st1 := []) rfl (fun H locs hP hD hS => ?_)
    refine lv_goto (tgt := 132) hx hb dX8_parseOperand_16 (by decide) ?_
    exact hret v21.1 v21.2.1 v21.2.2.1 v21.2.2.2 hg _ _ _ _ hP hS dX8_parseOperand_132

def g_X8_rec (N_X_now_rule_cells : Nat) (v_X_now_rule_width : Int32) (v_X_now_rule_size : Int32) (a_X_now_rule_cells : Nat → Int32) : Nat → Nat → Int32 → Int32 → Int32 → Int32 → Int32 → (Nat → Int32) → Option (Int32 × Int32 × Int32 × (Nat → Int32))
  | 0, _, _, _, _, _, _, _ => none
  | d + 1, t, a9, b9, v_X_rule_size, v_X_rule_place, v_X_rule_fault, a_X_rule_row => if t = 0 then g_X8_parseLevel N_X_now_rule_cells v_X_now_rule_width v_X_now_rule_size a_X_now_rule_cells a9 b9 (g_X8_rec N_X_now_rule_cells v_X_now_rule_width v_X_now_rule_size a_X_now_rule_cells d) v_X_rule_size v_X_rule_place v_X_rule_fault a_X_rule_row else if t = 1 then g_X8_parseUnit N_X_now_rule_cells v_X_now_rule_width v_X_now_rule_size a_X_now_rule_cells a9 (g_X8_rec N_X_now_rule_cells v_X_now_rule_width v_X_now_rule_size a_X_now_rule_cells d) v_X_rule_size v_X_rule_place v_X_rule_fault a_X_rule_row else g_X8_parseOperand N_X_now_rule_cells v_X_now_rule_width v_X_now_rule_size a_X_now_rule_cells a9 (g_X8_rec N_X_now_rule_cells v_X_now_rule_width v_X_now_rule_size a_X_now_rule_cells d) v_X_rule_size v_X_rule_place v_X_rule_fault a_X_rule_row
set_option maxHeartbeats 4000000 in
theorem c_X8_rec (l : Launch) (D : va_G) (cI cJ cZ cA : ClassId) (ga : Nat → Nat) (q_X_rule q_X_now q_X_now_rule q_X_now_rule_cells q_X_rule_row : Nat) (u_X_rule_stack : Value) (u_X_rule_known : Value) (u_X_rule_isStale : Value) (u_X_now_people : Value) (u_X_now_talks : Value) (u_X_now_dues : Value) (u_X_now_sights : Value) (u_X_now_settings : Value) (u_X_now_stake : Value) (u_X_now_rule_limit : Value) (N_X_now_rule_cells : Nat) (v_X_now_rule_width : Int32) (v_X_now_rule_size : Int32) (a_X_now_rule_cells : Nat → Int32) : ∀ d : Nat, (∀ (a9 b9 : Int32) (v_X_rule_size : Int32) (v_X_rule_place : Int32) (v_X_rule_fault : Int32) (a_X_rule_row : Nat → Int32) (o : Int32 × Int32 × Int32 × (Nat → Int32)), g_X8_rec N_X_now_rule_cells v_X_now_rule_width v_X_now_rule_size a_X_now_rule_cells d 0 a9 b9 v_X_rule_size v_X_rule_place v_X_rule_fault a_X_rule_row = some o → zM l yX8_parseLevel (Cond.code yX8_parseLevel cX8_parseLevel 6 none :: wsL_law) (rmr_X8 d) D (zTy cI cJ cZ cA) ga [.ref q_X_rule, .int a9, .int b9] (ws_X8_parseLevel cI cJ cZ cA q_X_rule q_X_now q_X_now_rule q_X_now_rule_cells q_X_rule_row u_X_rule_stack u_X_rule_known u_X_rule_isStale u_X_now_people u_X_now_talks u_X_now_dues u_X_now_sights u_X_now_settings u_X_now_stake u_X_now_rule_limit N_X_now_rule_cells v_X_rule_size v_X_rule_place v_X_rule_fault v_X_now_rule_width v_X_now_rule_size a_X_now_rule_cells a_X_rule_row) (ws_X8_parseLevel cI cJ cZ cA q_X_rule q_X_now q_X_now_rule q_X_now_rule_cells q_X_rule_row u_X_rule_stack u_X_rule_known u_X_rule_isStale u_X_now_people u_X_now_talks u_X_now_dues u_X_now_sights u_X_now_settings u_X_now_stake u_X_now_rule_limit N_X_now_rule_cells o.1 o.2.1 o.2.2.1 v_X_now_rule_width v_X_now_rule_size a_X_now_rule_cells o.2.2.2) none) ∧ (∀ (a9 : Int32) (v_X_rule_size : Int32) (v_X_rule_place : Int32) (v_X_rule_fault : Int32) (a_X_rule_row : Nat → Int32) (o : Int32 × Int32 × Int32 × (Nat → Int32)), g_X8_rec N_X_now_rule_cells v_X_now_rule_width v_X_now_rule_size a_X_now_rule_cells d 1 a9 0 v_X_rule_size v_X_rule_place v_X_rule_fault a_X_rule_row = some o → zM l yX8_parseUnit (Cond.code yX8_parseUnit cX8_parseUnit 6 none :: wsL_law) (rmr_X8 d) D (zTy cI cJ cZ cA) ga [.ref q_X_rule, .int a9] (ws_X8_parseLevel cI cJ cZ cA q_X_rule q_X_now q_X_now_rule q_X_now_rule_cells q_X_rule_row u_X_rule_stack u_X_rule_known u_X_rule_isStale u_X_now_people u_X_now_talks u_X_now_dues u_X_now_sights u_X_now_settings u_X_now_stake u_X_now_rule_limit N_X_now_rule_cells v_X_rule_size v_X_rule_place v_X_rule_fault v_X_now_rule_width v_X_now_rule_size a_X_now_rule_cells a_X_rule_row) (ws_X8_parseLevel cI cJ cZ cA q_X_rule q_X_now q_X_now_rule q_X_now_rule_cells q_X_rule_row u_X_rule_stack u_X_rule_known u_X_rule_isStale u_X_now_people u_X_now_talks u_X_now_dues u_X_now_sights u_X_now_settings u_X_now_stake u_X_now_rule_limit N_X_now_rule_cells o.1 o.2.1 o.2.2.1 v_X_now_rule_width v_X_now_rule_size a_X_now_rule_cells o.2.2.2) none) ∧ (∀ (a9 : Int32) (v_X_rule_size : Int32) (v_X_rule_place : Int32) (v_X_rule_fault : Int32) (a_X_rule_row : Nat → Int32) (o : Int32 × Int32 × Int32 × (Nat → Int32)), g_X8_rec N_X_now_rule_cells v_X_now_rule_width v_X_now_rule_size a_X_now_rule_cells d 2 a9 0 v_X_rule_size v_X_rule_place v_X_rule_fault a_X_rule_row = some o → zM l yX8_parseOperand (Cond.code yX8_parseOperand cX8_parseOperand 3 none :: wsL_law) (rmr_X8 d) D (zTy cI cJ cZ cA) ga [.ref q_X_rule, .int a9] (ws_X8_parseLevel cI cJ cZ cA q_X_rule q_X_now q_X_now_rule q_X_now_rule_cells q_X_rule_row u_X_rule_stack u_X_rule_known u_X_rule_isStale u_X_now_people u_X_now_talks u_X_now_dues u_X_now_sights u_X_now_settings u_X_now_stake u_X_now_rule_limit N_X_now_rule_cells v_X_rule_size v_X_rule_place v_X_rule_fault v_X_now_rule_width v_X_now_rule_size a_X_now_rule_cells a_X_rule_row) (ws_X8_parseLevel cI cJ cZ cA q_X_rule q_X_now q_X_now_rule q_X_now_rule_cells q_X_rule_row u_X_rule_stack u_X_rule_known u_X_rule_isStale u_X_now_people u_X_now_talks u_X_now_dues u_X_now_sights u_X_now_settings u_X_now_stake u_X_now_rule_limit N_X_now_rule_cells o.1 o.2.1 o.2.2.1 v_X_now_rule_width v_X_now_rule_size a_X_now_rule_cells o.2.2.2) none) := by
  intro d
  induction d with
  | zero => exact ⟨fun a9 b9 v_X_rule_size v_X_rule_place v_X_rule_fault a_X_rule_row o h => (nomatch (show (none : Option (Int32 × Int32 × Int32 × (Nat → Int32))) = some o from h)), fun a9 v_X_rule_size v_X_rule_place v_X_rule_fault a_X_rule_row o h => (nomatch (show (none : Option (Int32 × Int32 × Int32 × (Nat → Int32))) = some o from h)), fun a9 v_X_rule_size v_X_rule_place v_X_rule_fault a_X_rule_row o h => (nomatch (show (none : Option (Int32 × Int32 × Int32 × (Nat → Int32))) = some o from h))⟩
  | succ d ih =>
    exact ⟨fun a9 b9 v_X_rule_size v_X_rule_place v_X_rule_fault a_X_rule_row o h => c_X8_parseLevel l D cI cJ cZ cA ga q_X_rule q_X_now q_X_now_rule q_X_now_rule_cells q_X_rule_row u_X_rule_stack u_X_rule_known u_X_rule_isStale u_X_now_people u_X_now_talks u_X_now_dues u_X_now_sights u_X_now_settings u_X_now_stake u_X_now_rule_limit N_X_now_rule_cells v_X_rule_size v_X_rule_place v_X_rule_fault v_X_now_rule_width v_X_now_rule_size a_X_now_rule_cells a_X_rule_row a9 b9 d (g_X8_rec N_X_now_rule_cells v_X_now_rule_width v_X_now_rule_size a_X_now_rule_cells d) ih.1 ih.2.1 ih.2.2 o (zp h rfl),
      fun a9 v_X_rule_size v_X_rule_place v_X_rule_fault a_X_rule_row o h => c_X8_parseUnit l D cI cJ cZ cA ga q_X_rule q_X_now q_X_now_rule q_X_now_rule_cells q_X_rule_row u_X_rule_stack u_X_rule_known u_X_rule_isStale u_X_now_people u_X_now_talks u_X_now_dues u_X_now_sights u_X_now_settings u_X_now_stake u_X_now_rule_limit N_X_now_rule_cells v_X_rule_size v_X_rule_place v_X_rule_fault v_X_now_rule_width v_X_now_rule_size a_X_now_rule_cells a_X_rule_row a9 d (g_X8_rec N_X_now_rule_cells v_X_now_rule_width v_X_now_rule_size a_X_now_rule_cells d) ih.1 ih.2.1 ih.2.2 o (zp (zn h (by decide)) rfl),
      fun a9 v_X_rule_size v_X_rule_place v_X_rule_fault a_X_rule_row o h => c_X8_parseOperand l D cI cJ cZ cA ga q_X_rule q_X_now q_X_now_rule q_X_now_rule_cells q_X_rule_row u_X_rule_stack u_X_rule_known u_X_rule_isStale u_X_now_people u_X_now_talks u_X_now_dues u_X_now_sights u_X_now_settings u_X_now_stake u_X_now_rule_limit N_X_now_rule_cells v_X_rule_size v_X_rule_place v_X_rule_fault v_X_now_rule_width v_X_now_rule_size a_X_now_rule_cells a_X_rule_row a9 d (g_X8_rec N_X_now_rule_cells v_X_now_rule_width v_X_now_rule_size a_X_now_rule_cells d) ih.1 ih.2.1 ih.2.2 o (zn (zn h (by decide)) (by decide))⟩

/-! SpokenClock$Rule.refresh()V -/
abbrev ws_X8_refresh (cI cJ cZ cA : ClassId) (q_X_rule q_X_now q_X_now_rule q_X_now_rule_cells q_X_rule_row : Nat) (u_X_rule_stack : Value) (u_X_rule_known : Value) (u_X_now_people : Value) (u_X_now_talks : Value) (u_X_now_dues : Value) (u_X_now_sights : Value) (u_X_now_settings : Value) (u_X_now_stake : Value) (u_X_now_rule_limit : Value) (N_X_now_rule_cells : Nat) (v_X_rule_size : Int32) (v_X_rule_place : Int32) (v_X_rule_fault : Int32) (v_X_rule_isStale : Int32) (v_X_now_rule_width : Int32) (v_X_now_rule_size : Int32) (a_X_now_rule_cells : Nat → Int32) (a_X_rule_row : Nat → Int32) : va_W := [(q_X_rule, .inr (8, [.ref q_X_now, .ref q_X_rule_row, u_X_rule_stack, u_X_rule_known, .int v_X_rule_size, .int v_X_rule_place, .int v_X_rule_fault, .int v_X_rule_isStale])), (q_X_now, .inr (9, [u_X_now_people, u_X_now_talks, u_X_now_dues, u_X_now_sights, .ref q_X_now_rule, u_X_now_settings, u_X_now_stake])), (q_X_now_rule, .inr (7, [.int v_X_now_rule_width, u_X_now_rule_limit, .ref q_X_now_rule_cells, .int v_X_now_rule_size])), (q_X_now_rule_cells, .inl (cI, N_X_now_rule_cells, .inl a_X_now_rule_cells)), (q_X_rule_row, .inl (cI, 40, .inl a_X_rule_row))]
abbrev rm_X8_refresh : Room := { frames := 145, cells := 0, slots := 0, locals := 5545 }
def g_X8_refresh (N_X_now_rule_cells : Nat) (v_X_now_rule_width : Int32) (v_X_now_rule_size : Int32) (a_X_now_rule_cells : Nat → Int32) (v_X_rule_size : Int32) (v_X_rule_place : Int32) (v_X_rule_fault : Int32) (v_X_rule_isStale : Int32) (a_X_rule_row : Nat → Int32) : Option (Int32 × Int32 × Int32 × Int32 × (Nat → Int32)) :=
  if v_X_rule_isStale = 0 then (
    some (v_X_rule_size, v_X_rule_place, v_X_rule_fault, v_X_rule_isStale, a_X_rule_row)
  ) else (
    (g_X8_rec N_X_now_rule_cells v_X_now_rule_width v_X_now_rule_size a_X_now_rule_cells 128 0 0 0 0 0 (-1) a_X_rule_row).bind fun v1 =>
    (g_X8_ahead N_X_now_rule_cells v_X_now_rule_width v_X_now_rule_size a_X_now_rule_cells v1.2.1).bind fun v3 =>
    if v3.1 = (-1) then (
      some (v1.1, v3.2, v1.2.2.1, 0, v1.2.2.2)
    ) else (
      (g_X8_stop v3.2 1 v1.2.2.1).bind fun v5 =>
      some (v1.1, v3.2, v5, 0, v1.2.2.2)
    )
  )
theorem hd_X8_refresh : yX8_refresh.cls = RX8 ∧ yX8_refresh.cls ≠ "java/lang/invoke/MethodHandle" ∧ yX8_refresh.cls ≠ "java/lang/invoke/VarHandle" ∧ (parseMethodDescriptor yX8_refresh.desc).map (fun d => d.parameters.length) = some 0 := by decide +kernel
set_option maxHeartbeats 4000000 in
set_option maxRecDepth 100000 in
theorem c_X8_refresh (l : Launch) (D : va_G) (cI cJ cZ cA : ClassId) (ga : Nat → Nat) (q_X_rule q_X_now q_X_now_rule q_X_now_rule_cells q_X_rule_row : Nat) (u_X_rule_stack : Value) (u_X_rule_known : Value) (u_X_now_people : Value) (u_X_now_talks : Value) (u_X_now_dues : Value) (u_X_now_sights : Value) (u_X_now_settings : Value) (u_X_now_stake : Value) (u_X_now_rule_limit : Value) (N_X_now_rule_cells : Nat) (v_X_rule_size : Int32) (v_X_rule_place : Int32) (v_X_rule_fault : Int32) (v_X_rule_isStale : Int32) (v_X_now_rule_width : Int32) (v_X_now_rule_size : Int32) (a_X_now_rule_cells : Nat → Int32) (a_X_rule_row : Nat → Int32) (o : Int32 × Int32 × Int32 × Int32 × (Nat → Int32)) (hg : g_X8_refresh N_X_now_rule_cells v_X_now_rule_width v_X_now_rule_size a_X_now_rule_cells v_X_rule_size v_X_rule_place v_X_rule_fault v_X_rule_isStale a_X_rule_row = some o) : zM l yX8_refresh (Cond.code yX8_refresh cX8_refresh 1 none :: wsL_law) rm_X8_refresh D (zTy cI cJ cZ cA) ga [.ref q_X_rule] (ws_X8_refresh cI cJ cZ cA q_X_rule q_X_now q_X_now_rule q_X_now_rule_cells q_X_rule_row u_X_rule_stack u_X_rule_known u_X_now_people u_X_now_talks u_X_now_dues u_X_now_sights u_X_now_settings u_X_now_stake u_X_now_rule_limit N_X_now_rule_cells v_X_rule_size v_X_rule_place v_X_rule_fault v_X_rule_isStale v_X_now_rule_width v_X_now_rule_size a_X_now_rule_cells a_X_rule_row) (ws_X8_refresh cI cJ cZ cA q_X_rule q_X_now q_X_now_rule q_X_now_rule_cells q_X_rule_row u_X_rule_stack u_X_rule_known u_X_now_people u_X_now_talks u_X_now_dues u_X_now_sights u_X_now_settings u_X_now_stake u_X_now_rule_limit N_X_now_rule_cells o.1 o.2.1 o.2.2.1 o.2.2.2.1 v_X_now_rule_width v_X_now_rule_size a_X_now_rule_cells o.2.2.2.2) none := by
  refine zenterV (own := RX8) (by decide) rfl rfl (Nat.le_of_ble_eq_true rfl) ?_
  intro p e s m args below meth c A ls Q S hA hK hG hl hP hD hS hret0
  have hx := S.1
  have hb := S.2.1
  have ht : ∀ w, w ∈ wsL_law → w.before args s = true := fun w h => S.2.2.2.2 w (List.mem_cons_of_mem _ h)
  have hret : ∀ (v_X_rule_size : Int32) (v_X_rule_place : Int32) (v_X_rule_fault : Int32) (v_X_rule_isStale : Int32) (a_X_rule_row : Nat → Int32), (some (v_X_rule_size, v_X_rule_place, v_X_rule_fault, v_X_rule_isStale, a_X_rule_row) : Option (Int32 × Int32 × Int32 × Int32 × (Nat → Int32))) = some o → ∀ (H : Heap) (locs : List Loc) (pc : Nat) (ls : Array Slot), va_P D vwCl (ws_X8_refresh cI cJ cZ cA q_X_rule q_X_now q_X_now_rule q_X_now_rule_cells q_X_rule_row u_X_rule_stack u_X_rule_known u_X_now_people u_X_now_talks u_X_now_dues u_X_now_sights u_X_now_settings u_X_now_stake u_X_now_rule_limit N_X_now_rule_cells v_X_rule_size v_X_rule_place v_X_rule_fault v_X_rule_isStale v_X_now_rule_width v_X_now_rule_size a_X_now_rule_cells a_X_rule_row) H → va_S A s.heap H locs → decode cX8_refresh pc = .ok (.return_, 1) → W p l e rm_X8_refresh s m args below meth c H locs 0 0 Q (F0 m pc ls []) := by
    intro v_X_rule_size v_X_rule_place v_X_rule_fault v_X_rule_isStale a_X_rule_row he; cases he; exact hret0
  have hl : lv_has ls 1 [(0, .ref q_X_rule)] := hl
  refine lv_aload_n hx hb dX8_refresh_0 rfl (lv_at hl 0 rfl) ?_
  refine zget (C := RX8) (T := TX8) (N := 8) S hK hP 0 rfl rfl 7 (Nat.le_of_ble_eq_true rfl) zf_8 zw_110 rfl dX8_refresh_1 ?_
  refine lv_if_ne (tgt := 8) hx hb dX8_refresh_4 (by decide) (fun h4 => ?_) (fun h4 => ?_)
  · have hg := zn hg h4
    refine lv_aload_n hx hb dX8_refresh_8 rfl (lv_at hl 0 rfl) ?_
    refine lv_iconst (v := 0) hx hb dX8_refresh_9 (by decide) ?_
    refine zputf (C := RX8) (T := TX8) (N := 8) (ty := .boolean) S hK hP hD hS 0 rfl rfl 7 (Nat.le_of_ble_eq_true rfl) zf_8 tyX8 tyX8_ok nmX8 zw_110 rfl (by decide +kernel) rfl rfl (Nat.le_of_ble_eq_true rfl) dX8_refresh_10 (w2 := (ws_X8_refresh cI cJ cZ cA q_X_rule q_X_now q_X_now_rule q_X_now_rule_cells q_X_rule_row u_X_rule_stack u_X_rule_known u_X_now_people u_X_now_talks u_X_now_dues u_X_now_sights u_X_now_settings u_X_now_stake u_X_now_rule_limit N_X_now_rule_cells v_X_rule_size v_X_rule_place v_X_rule_fault 0 v_X_now_rule_width v_X_now_rule_size a_X_now_rule_cells a_X_rule_row)) rfl (fun H locs hP hD hS => ?_)
    refine lv_aload_n hx hb dX8_refresh_13 rfl (lv_at hl 0 rfl) ?_
    refine lv_iconst (v := 0) hx hb dX8_refresh_14 (by decide) ?_
    refine zputf (C := RX8) (T := TX8) (N := 8) (ty := .int) S hK hP hD hS 0 rfl rfl 4 (Nat.le_of_ble_eq_true rfl) zf_8 tyX8 tyX8_ok nmX8 zw_537 rfl (by decide +kernel) rfl rfl (Nat.le_of_ble_eq_true rfl) dX8_refresh_15 (w2 := (ws_X8_refresh cI cJ cZ cA q_X_rule q_X_now q_X_now_rule q_X_now_rule_cells q_X_rule_row u_X_rule_stack u_X_rule_known u_X_now_people u_X_now_talks u_X_now_dues u_X_now_sights u_X_now_settings u_X_now_stake u_X_now_rule_limit N_X_now_rule_cells 0 v_X_rule_place v_X_rule_fault 0 v_X_now_rule_width v_X_now_rule_size a_X_now_rule_cells a_X_rule_row)) rfl (fun H locs hP hD hS => ?_)
    refine lv_aload_n hx hb dX8_refresh_18 rfl (lv_at hl 0 rfl) ?_
    refine lv_iconst (v := 0) hx hb dX8_refresh_19 (by decide) ?_
    refine zputf (C := RX8) (T := TX8) (N := 8) (ty := .int) S hK hP hD hS 0 rfl rfl 5 (Nat.le_of_ble_eq_true rfl) zf_8 tyX8 tyX8_ok nmX8 zw_538 rfl (by decide +kernel) rfl rfl (Nat.le_of_ble_eq_true rfl) dX8_refresh_20 (w2 := (ws_X8_refresh cI cJ cZ cA q_X_rule q_X_now q_X_now_rule q_X_now_rule_cells q_X_rule_row u_X_rule_stack u_X_rule_known u_X_now_people u_X_now_talks u_X_now_dues u_X_now_sights u_X_now_settings u_X_now_stake u_X_now_rule_limit N_X_now_rule_cells 0 0 v_X_rule_fault 0 v_X_now_rule_width v_X_now_rule_size a_X_now_rule_cells a_X_rule_row)) rfl (fun H locs hP hD hS => ?_)
    refine lv_aload_n hx hb dX8_refresh_23 rfl (lv_at hl 0 rfl) ?_
    refine lv_iconst (v := (-1)) hx hb dX8_refresh_24 (by decide) ?_
    refine zputf (C := RX8) (T := TX8) (N := 8) (ty := .int) S hK hP hD hS 0 rfl rfl 6 (Nat.le_of_ble_eq_true rfl) zf_8 tyX8 tyX8_ok nmX8 zw_539 rfl (by decide +kernel) rfl rfl (Nat.le_of_ble_eq_true rfl) dX8_refresh_25 (w2 := (ws_X8_refresh cI cJ cZ cA q_X_rule q_X_now q_X_now_rule q_X_now_rule_cells q_X_rule_row u_X_rule_stack u_X_rule_known u_X_now_people u_X_now_talks u_X_now_dues u_X_now_sights u_X_now_settings u_X_now_stake u_X_now_rule_limit N_X_now_rule_cells 0 0 (-1) 0 v_X_now_rule_width v_X_now_rule_size a_X_now_rule_cells a_X_rule_row)) rfl (fun H locs hP hD hS => ?_)
    refine lv_aload_n hx hb dX8_refresh_28 rfl (lv_at hl 0 rfl) ?_
    refine lv_iconst (v := 0) hx hb dX8_refresh_29 (by decide) ?_
    refine lv_iconst (v := 0) hx hb dX8_refresh_30 (by decide) ?_
    obtain ⟨v1, hc2, hg⟩ := zbd hg
    refine zcallV (rest := []) S ((c_X8_rec l D cI cJ cZ cA ga q_X_rule q_X_now q_X_now_rule q_X_now_rule_cells q_X_rule_row u_X_rule_stack u_X_rule_known (.int 0) u_X_now_people u_X_now_talks u_X_now_dues u_X_now_sights u_X_now_settings u_X_now_stake u_X_now_rule_limit N_X_now_rule_cells v_X_now_rule_width v_X_now_rule_size a_X_now_rule_cells 128).1 0 0 0 0 (-1) a_X_rule_row v1 hc2) (zgV zw_540 zw_541 zw_542 zw_35 zw_543) rfl hd_X8_parseLevel ⟨rfl, rfl⟩ ⟨Nat.le_of_ble_eq_true rfl, Nat.le_of_ble_eq_true rfl⟩ 0 8 rfl rfl rfl hl.1 rfl (Nat.le_of_ble_eq_true rfl) dX8_refresh_31 hP hD hS hA hK hG (isC := [0, 1, 2, 3, 4]) rfl (by decide +kernel) rfl ⟨Nat.zero_le _, Nat.zero_le _⟩ (pl := [some 0, some 1, some 2, some 3, some 4]) (nw := 5) rfl (by decide +kernel) (w2 := (ws_X8_refresh cI cJ cZ cA q_X_rule q_X_now q_X_now_rule q_X_now_rule_cells q_X_rule_row u_X_rule_stack u_X_rule_known u_X_now_people u_X_now_talks u_X_now_dues u_X_now_sights u_X_now_settings u_X_now_stake u_X_now_rule_limit N_X_now_rule_cells v1.1 v1.2.1 v1.2.2.1 0 v_X_now_rule_width v_X_now_rule_size a_X_now_rule_cells v1.2.2.2)) rfl (st1 := []) rfl (fun H locs hP hD hS => ?_)
    refine lv_aload_n hx hb dX8_refresh_34 rfl (lv_at hl 0 rfl) ?_
    obtain ⟨v3, hc4, hg⟩ := zbd hg
    refine zcallV (rest := []) S (c_X8_ahead l D cI cJ cZ cA ga q_X_rule q_X_now q_X_now_rule q_X_now_rule_cells (.ref q_X_rule_row) u_X_rule_stack u_X_rule_known (.int v1.1) (.int v1.2.2.1) (.int 0) u_X_now_people u_X_now_talks u_X_now_dues u_X_now_sights u_X_now_settings u_X_now_stake u_X_now_rule_limit N_X_now_rule_cells v1.2.1 v_X_now_rule_width v_X_now_rule_size a_X_now_rule_cells v3 hc4) (zgV zw_547 zw_548 zw_549 zw_35 zw_550) rfl hd_X8_ahead ⟨rfl, rfl⟩ ⟨Nat.le_of_ble_eq_true rfl, Nat.le_of_ble_eq_true rfl⟩ 0 8 rfl rfl rfl hl.1 rfl (Nat.le_of_ble_eq_true rfl) dX8_refresh_35 hP hD hS hA hK hG (isC := [0, 1, 2, 3]) rfl (by decide +kernel) rfl ⟨Nat.zero_le _, Nat.zero_le _⟩ (pl := [some 0, some 1, some 2, some 3, none]) (nw := 5) rfl (by decide +kernel) (w2 := (ws_X8_refresh cI cJ cZ cA q_X_rule q_X_now q_X_now_rule q_X_now_rule_cells q_X_rule_row u_X_rule_stack u_X_rule_known u_X_now_people u_X_now_talks u_X_now_dues u_X_now_sights u_X_now_settings u_X_now_stake u_X_now_rule_limit N_X_now_rule_cells v1.1 v3.2 v1.2.2.1 0 v_X_now_rule_width v_X_now_rule_size a_X_now_rule_cells v1.2.2.2)) rfl (st1 := [.int v3.1]) rfl (fun H locs hP hD hS => ?_)
    refine lv_iconst (v := (-1)) hx hb dX8_refresh_38 (by decide) ?_
    refine lv_icmp_eq (tgt := 51) hx hb dX8_refresh_39 (by decide) (fun h39 => ?_) (fun h39 => ?_)
    · have hg := zp hg h39
      exact hret v1.1 v3.2 v1.2.2.1 0 v1.2.2.2 hg _ _ _ _ hP hS dX8_refresh_51
    · have hg := zn hg h39
      refine lv_aload_n hx hb dX8_refresh_42 rfl (lv_at hl 0 rfl) ?_
      refine lv_aload_n hx hb dX8_refresh_43 rfl (lv_at hl 0 rfl) ?_
      refine zget (C := RX8) (T := TX8) (N := 8) S hK hP 0 rfl rfl 5 (Nat.le_of_ble_eq_true rfl) zf_8 zw_538 rfl dX8_refresh_44 ?_
      refine lv_iconst (v := 1) hx hb dX8_refresh_47 (by decide) ?_
      obtain ⟨v5, hc6, hg⟩ := zbd hg
      refine zcallV (rest := []) S (c_X8_stop l D cI cJ cZ cA ga q_X_rule (.ref q_X_now) (.ref q_X_rule_row) u_X_rule_stack u_X_rule_known (.int v1.1) (.int v3.2) (.int 0) v1.2.2.1 v3.2 1 v5 hc6) (zgV zw_569 zw_570 zw_571 zw_35 zw_572) rfl hd_X8_stop ⟨rfl, rfl⟩ ⟨Nat.le_of_ble_eq_true rfl, Nat.le_of_ble_eq_true rfl⟩ 0 8 rfl rfl rfl hl.1 rfl (Nat.le_of_ble_eq_true rfl) dX8_refresh_48 hP hD hS hA hK hG (isC := [0]) rfl (by decide +kernel) rfl ⟨Nat.zero_le _, Nat.zero_le _⟩ (pl := [some 0, none, none, none, none]) (nw := 5) rfl (by decide +kernel) (w2 := (ws_X8_refresh cI cJ cZ cA q_X_rule q_X_now q_X_now_rule q_X_now_rule_cells q_X_rule_row u_X_rule_stack u_X_rule_known u_X_now_people u_X_now_talks u_X_now_dues u_X_now_sights u_X_now_settings u_X_now_stake u_X_now_rule_limit N_X_now_rule_cells v1.1 v3.2 v5 0 v_X_now_rule_width v_X_now_rule_size a_X_now_rule_cells v1.2.2.2)) rfl (st1 := []) rfl (fun H locs hP hD hS => ?_)
      exact hret v1.1 v3.2 v5 0 v1.2.2.2 hg _ _ _ _ hP hS dX8_refresh_51
  · have hg := zp hg h4
    exact hret v_X_rule_size v_X_rule_place v_X_rule_fault v_X_rule_isStale a_X_rule_row hg _ _ _ _ hP hS dX8_refresh_7

/-! SpokenClock.fault()I -/
abbrev ws_X10_fault (cI cJ cZ cA : ClassId) (q_X q_X_rule q_X_now q_X_now_rule q_X_now_rule_cells q_X_rule_row : Nat) (u_X_draft : Value) (u_X_text : Value) (u_X_reader : Value) (u_X_day : Value) (u_X_plan : Value) (u_X_guess : Value) (u_X_quarrel : Value) (u_X_fraction : Value) (u_X_firstImage : Value) (u_X_secondImage : Value) (u_X_kept : Value) (u_X_refusals : Value) (u_X_rule_stack : Value) (u_X_rule_known : Value) (u_X_now_people : Value) (u_X_now_talks : Value) (u_X_now_dues : Value) (u_X_now_sights : Value) (u_X_now_settings : Value) (u_X_now_stake : Value) (u_X_now_rule_limit : Value) (N_X_now_rule_cells : Nat) (v_X_rule_size : Int32) (v_X_rule_place : Int32) (v_X_rule_fault : Int32) (v_X_rule_isStale : Int32) (v_X_now_rule_width : Int32) (v_X_now_rule_size : Int32) (a_X_now_rule_cells : Nat → Int32) (a_X_rule_row : Nat → Int32) : va_W := [(q_X, .inr (10, [.ref q_X_now, u_X_draft, u_X_text, u_X_reader, .ref q_X_rule, u_X_day, u_X_plan, u_X_guess, u_X_quarrel, u_X_fraction, u_X_firstImage, u_X_secondImage, u_X_kept, u_X_refusals])), (q_X_rule, .inr (8, [.ref q_X_now, .ref q_X_rule_row, u_X_rule_stack, u_X_rule_known, .int v_X_rule_size, .int v_X_rule_place, .int v_X_rule_fault, .int v_X_rule_isStale])), (q_X_now, .inr (9, [u_X_now_people, u_X_now_talks, u_X_now_dues, u_X_now_sights, .ref q_X_now_rule, u_X_now_settings, u_X_now_stake])), (q_X_now_rule, .inr (7, [.int v_X_now_rule_width, u_X_now_rule_limit, .ref q_X_now_rule_cells, .int v_X_now_rule_size])), (q_X_now_rule_cells, .inl (cI, N_X_now_rule_cells, .inl a_X_now_rule_cells)), (q_X_rule_row, .inl (cI, 40, .inl a_X_rule_row))]
abbrev rm_X10_fault : Room := { frames := 146, cells := 0, slots := 0, locals := 5565 }
def g_X10_fault (N_X_now_rule_cells : Nat) (v_X_now_rule_width : Int32) (v_X_now_rule_size : Int32) (a_X_now_rule_cells : Nat → Int32) (v_X_rule_size : Int32) (v_X_rule_place : Int32) (v_X_rule_fault : Int32) (v_X_rule_isStale : Int32) (a_X_rule_row : Nat → Int32) : Option (Int32 × Int32 × Int32 × Int32 × Int32 × (Nat → Int32)) :=
  (g_X8_refresh N_X_now_rule_cells v_X_now_rule_width v_X_now_rule_size a_X_now_rule_cells v_X_rule_size v_X_rule_place v_X_rule_fault v_X_rule_isStale a_X_rule_row).bind fun v1 =>
  (g_X8_firstFault v1.2.2.1).bind fun v3 =>
  some (v3, v1.1, v1.2.1, v1.2.2.1, v1.2.2.2.1, v1.2.2.2.2)
theorem hd_X10_fault : yX10_fault.cls = RX10 ∧ yX10_fault.cls ≠ "java/lang/invoke/MethodHandle" ∧ yX10_fault.cls ≠ "java/lang/invoke/VarHandle" ∧ (parseMethodDescriptor yX10_fault.desc).map (fun d => d.parameters.length) = some 0 := by decide +kernel
set_option maxHeartbeats 4000000 in
set_option maxRecDepth 100000 in
theorem c_X10_fault (l : Launch) (D : va_G) (cI cJ cZ cA : ClassId) (ga : Nat → Nat) (q_X q_X_rule q_X_now q_X_now_rule q_X_now_rule_cells q_X_rule_row : Nat) (u_X_draft : Value) (u_X_text : Value) (u_X_reader : Value) (u_X_day : Value) (u_X_plan : Value) (u_X_guess : Value) (u_X_quarrel : Value) (u_X_fraction : Value) (u_X_firstImage : Value) (u_X_secondImage : Value) (u_X_kept : Value) (u_X_refusals : Value) (u_X_rule_stack : Value) (u_X_rule_known : Value) (u_X_now_people : Value) (u_X_now_talks : Value) (u_X_now_dues : Value) (u_X_now_sights : Value) (u_X_now_settings : Value) (u_X_now_stake : Value) (u_X_now_rule_limit : Value) (N_X_now_rule_cells : Nat) (v_X_rule_size : Int32) (v_X_rule_place : Int32) (v_X_rule_fault : Int32) (v_X_rule_isStale : Int32) (v_X_now_rule_width : Int32) (v_X_now_rule_size : Int32) (a_X_now_rule_cells : Nat → Int32) (a_X_rule_row : Nat → Int32) (o : Int32 × Int32 × Int32 × Int32 × Int32 × (Nat → Int32)) (hg : g_X10_fault N_X_now_rule_cells v_X_now_rule_width v_X_now_rule_size a_X_now_rule_cells v_X_rule_size v_X_rule_place v_X_rule_fault v_X_rule_isStale a_X_rule_row = some o) : zM l yX10_fault (Cond.code yX10_fault cX10_fault 1 (some .int) :: wsL_law) rm_X10_fault D (zTy cI cJ cZ cA) ga [.ref q_X] (ws_X10_fault cI cJ cZ cA q_X q_X_rule q_X_now q_X_now_rule q_X_now_rule_cells q_X_rule_row u_X_draft u_X_text u_X_reader u_X_day u_X_plan u_X_guess u_X_quarrel u_X_fraction u_X_firstImage u_X_secondImage u_X_kept u_X_refusals u_X_rule_stack u_X_rule_known u_X_now_people u_X_now_talks u_X_now_dues u_X_now_sights u_X_now_settings u_X_now_stake u_X_now_rule_limit N_X_now_rule_cells v_X_rule_size v_X_rule_place v_X_rule_fault v_X_rule_isStale v_X_now_rule_width v_X_now_rule_size a_X_now_rule_cells a_X_rule_row) (ws_X10_fault cI cJ cZ cA q_X q_X_rule q_X_now q_X_now_rule q_X_now_rule_cells q_X_rule_row u_X_draft u_X_text u_X_reader u_X_day u_X_plan u_X_guess u_X_quarrel u_X_fraction u_X_firstImage u_X_secondImage u_X_kept u_X_refusals u_X_rule_stack u_X_rule_known u_X_now_people u_X_now_talks u_X_now_dues u_X_now_sights u_X_now_settings u_X_now_stake u_X_now_rule_limit N_X_now_rule_cells o.2.1 o.2.2.1 o.2.2.2.1 o.2.2.2.2.1 v_X_now_rule_width v_X_now_rule_size a_X_now_rule_cells o.2.2.2.2.2) (some (.int o.1)) := by
  refine zenterI (own := RX10) (by decide) rfl rfl (Nat.le_of_ble_eq_true rfl) ?_
  intro p e s m args below meth c A ls Q S hA hK hG hl hP hD hS hret0
  have hx := S.1
  have hb := S.2.1
  have ht : ∀ w, w ∈ wsL_law → w.before args s = true := fun w h => S.2.2.2.2 w (List.mem_cons_of_mem _ h)
  have hret : ∀ (r9 : Int32) (v_X_rule_size : Int32) (v_X_rule_place : Int32) (v_X_rule_fault : Int32) (v_X_rule_isStale : Int32) (a_X_rule_row : Nat → Int32), (some (r9, v_X_rule_size, v_X_rule_place, v_X_rule_fault, v_X_rule_isStale, a_X_rule_row) : Option (Int32 × Int32 × Int32 × Int32 × Int32 × (Nat → Int32))) = some o → ∀ (H : Heap) (locs : List Loc) (pc : Nat) (ls : Array Slot), va_P D vwCl (ws_X10_fault cI cJ cZ cA q_X q_X_rule q_X_now q_X_now_rule q_X_now_rule_cells q_X_rule_row u_X_draft u_X_text u_X_reader u_X_day u_X_plan u_X_guess u_X_quarrel u_X_fraction u_X_firstImage u_X_secondImage u_X_kept u_X_refusals u_X_rule_stack u_X_rule_known u_X_now_people u_X_now_talks u_X_now_dues u_X_now_sights u_X_now_settings u_X_now_stake u_X_now_rule_limit N_X_now_rule_cells v_X_rule_size v_X_rule_place v_X_rule_fault v_X_rule_isStale v_X_now_rule_width v_X_now_rule_size a_X_now_rule_cells a_X_rule_row) H → va_S A s.heap H locs → decode cX10_fault pc = .ok (.ireturn, 1) → W p l e rm_X10_fault s m args below meth c H locs 0 0 Q (F0 m pc ls [.int r9]) := by
    intro r9 v_X_rule_size v_X_rule_place v_X_rule_fault v_X_rule_isStale a_X_rule_row he; cases he; exact hret0
  have hl : lv_has ls 1 [(0, .ref q_X)] := hl
  refine lv_aload_n hx hb dX10_fault_0 rfl (lv_at hl 0 rfl) ?_
  refine zget (C := RX10) (T := TX10) (N := 14) S hK hP 0 rfl rfl 4 (Nat.le_of_ble_eq_true rfl) zf_10 zw_54 rfl dX10_fault_1 ?_
  obtain ⟨v1, hc2, hg⟩ := zbd hg
  refine zcallV (rest := []) S (c_X8_refresh l D cI cJ cZ cA ga q_X_rule q_X_now q_X_now_rule q_X_now_rule_cells q_X_rule_row u_X_rule_stack u_X_rule_known u_X_now_people u_X_now_talks u_X_now_dues u_X_now_sights u_X_now_settings u_X_now_stake u_X_now_rule_limit N_X_now_rule_cells v_X_rule_size v_X_rule_place v_X_rule_fault v_X_rule_isStale v_X_now_rule_width v_X_now_rule_size a_X_now_rule_cells a_X_rule_row v1 hc2) (zgV zw_533 zw_534 zw_535 zw_35 zw_536) rfl hd_X8_refresh ⟨rfl, rfl⟩ ⟨Nat.le_of_ble_eq_true rfl, Nat.le_of_ble_eq_true rfl⟩ 1 8 rfl rfl rfl hl.1 rfl (Nat.le_of_ble_eq_true rfl) dX10_fault_4 hP hD hS hA hK hG (isC := [1, 2, 3, 4, 5]) rfl (by decide +kernel) rfl ⟨Nat.zero_le _, Nat.zero_le _⟩ (pl := [none, some 0, some 1, some 2, some 3, some 4]) (nw := 6) rfl (by decide +kernel) (w2 := (ws_X10_fault cI cJ cZ cA q_X q_X_rule q_X_now q_X_now_rule q_X_now_rule_cells q_X_rule_row u_X_draft u_X_text u_X_reader u_X_day u_X_plan u_X_guess u_X_quarrel u_X_fraction u_X_firstImage u_X_secondImage u_X_kept u_X_refusals u_X_rule_stack u_X_rule_known u_X_now_people u_X_now_talks u_X_now_dues u_X_now_sights u_X_now_settings u_X_now_stake u_X_now_rule_limit N_X_now_rule_cells v1.1 v1.2.1 v1.2.2.1 v1.2.2.2.1 v_X_now_rule_width v_X_now_rule_size a_X_now_rule_cells v1.2.2.2.2)) rfl (st1 := []) rfl (fun H locs hP hD hS => ?_)
  refine lv_aload_n hx hb dX10_fault_7 rfl (lv_at hl 0 rfl) ?_
  refine zget (C := RX10) (T := TX10) (N := 14) S hK hP 0 rfl rfl 4 (Nat.le_of_ble_eq_true rfl) zf_10 zw_54 rfl dX10_fault_8 ?_
  obtain ⟨v3, hc4, hg⟩ := zbd hg
  refine zcallV (rest := []) S (c_X8_firstFault l D cI cJ cZ cA ga q_X_rule (.ref q_X_now) (.ref q_X_rule_row) u_X_rule_stack u_X_rule_known (.int v1.1) (.int v1.2.1) (.int v1.2.2.2.1) v1.2.2.1 v3 hc4) (zgV zw_583 zw_584 zw_585 zw_35 zw_586) rfl hd_X8_firstFault ⟨rfl, rfl⟩ ⟨Nat.le_of_ble_eq_true rfl, Nat.le_of_ble_eq_true rfl⟩ 1 8 rfl rfl rfl hl.1 rfl (Nat.le_of_ble_eq_true rfl) dX10_fault_11 hP hD hS hA hK hG (isC := [1]) rfl (by decide +kernel) rfl ⟨Nat.zero_le _, Nat.zero_le _⟩ (pl := [none, some 0, none, none, none, none]) (nw := 6) rfl (by decide +kernel) (w2 := (ws_X10_fault cI cJ cZ cA q_X q_X_rule q_X_now q_X_now_rule q_X_now_rule_cells q_X_rule_row u_X_draft u_X_text u_X_reader u_X_day u_X_plan u_X_guess u_X_quarrel u_X_fraction u_X_firstImage u_X_secondImage u_X_kept u_X_refusals u_X_rule_stack u_X_rule_known u_X_now_people u_X_now_talks u_X_now_dues u_X_now_sights u_X_now_settings u_X_now_stake u_X_now_rule_limit N_X_now_rule_cells v1.1 v1.2.1 v1.2.2.1 v1.2.2.2.1 v_X_now_rule_width v_X_now_rule_size a_X_now_rule_cells v1.2.2.2.2)) rfl (st1 := [.int v3]) rfl (fun H locs hP hD hS => ?_)
  exact hret v3 v1.1 v1.2.1 v1.2.2.1 v1.2.2.2.1 v1.2.2.2.2 hg _ _ _ _ hP hS dX10_fault_14

/-! SpokenClock.isValley(I)Z -/
abbrev ws_X10_isValley (cI cJ cZ cA : ClassId) : va_W := []
abbrev rm_X10_isValley : Room := { frames := 1, cells := 0, slots := 0, locals := 22 }
def g_X10_isValley (x0 : Int32) : Option (Int32) :=
  (g_X10_isIn x0 0 1).bind fun v1 =>
  if v1 = 0 ∨ v1 = 1 then
    some (v1)
  else none
theorem hd_X10_isValley : yX10_isValley.cls ≠ "java/lang/invoke/MethodHandle" ∧ yX10_isValley.cls ≠ "java/lang/invoke/VarHandle" ∧ (parseMethodDescriptor yX10_isValley.desc).map (fun d => d.parameters.length) = some 1 := by decide +kernel
set_option maxHeartbeats 4000000 in
set_option maxRecDepth 100000 in
theorem c_X10_isValley (l : Launch) (D : va_G) (cI cJ cZ cA : ClassId) (ga : Nat → Nat) (x0 : Int32) (o : Int32) (hg : g_X10_isValley x0 = some o) : zM l yX10_isValley (Cond.code yX10_isValley cX10_isValley 1 (some .boolean) :: wsL_law) rm_X10_isValley D (zTy cI cJ cZ cA) ga [.int x0] (ws_X10_isValley cI cJ cZ cA) (ws_X10_isValley cI cJ cZ cA) (some (.int o)) := by
  refine zenterN (own := RX10) (by decide) rfl rfl (Nat.le_of_ble_eq_true rfl) ?_
  intro p e s m args below meth c A ls Q S hA hK hG hl hP hD hS hret0
  have hx := S.1
  have hb := S.2.1
  have ht : ∀ w, w ∈ wsL_law → w.before args s = true := fun w h => S.2.2.2.2 w (List.mem_cons_of_mem _ h)
  have hret : ∀ (r9 : Int32), (some (r9) : Option (Int32)) = some o → narrow .boolean (.int r9) = .int r9 → ∀ (H : Heap) (locs : List Loc) (pc : Nat) (ls : Array Slot), va_P D vwCl (ws_X10_isValley cI cJ cZ cA) H → va_S A s.heap H locs → decode cX10_isValley pc = .ok (.ireturn, 1) → W p l e rm_X10_isValley s m args below meth c H locs 0 0 Q (F0 m pc ls [.int r9]) := by
    intro r9 he; cases he; exact hret0
  have hl : lv_has ls 1 [(0, .int x0)] := hl
  refine lv_iload_n hx hb dX10_isValley_0 rfl (lv_at hl 0 rfl) ?_
  refine lv_iconst (v := 0) hx hb dX10_isValley_1 (by decide) ?_
  refine lv_iconst (v := 1) hx hb dX10_isValley_2 (by decide) ?_
  obtain ⟨v1, hc2, hg⟩ := zbd hg
  refine zcallS (rest := []) S (c_X10_isIn l D cI cJ cZ cA ga x0 0 1 v1 hc2) (zgS zw_188 zw_189 zw_2 zw_190) rfl hd_X10_isIn ⟨rfl, rfl⟩ ⟨Nat.le_of_ble_eq_true rfl, Nat.le_of_ble_eq_true rfl⟩ rfl hl.1 rfl (Nat.le_of_ble_eq_true rfl) dX10_isValley_3 hP hD hS hA hK hG (isC := []) rfl (by decide +kernel) rfl ⟨Nat.zero_le _, Nat.zero_le _⟩ (pl := []) (nw := 0) rfl (by decide +kernel) (w2 := (ws_X10_isValley cI cJ cZ cA)) rfl (st1 := [.int v1]) rfl (fun H locs hP hD hS => ?_)
  obtain ⟨hz01, hg⟩ := zck2 hg
  exact hret v1 hg (zb01 hz01) _ _ _ _ hP hS dX10_isValley_6

/-! java/util/Arrays.fill([II)V -/
abbrev ws_J7_fill_53178 (cI cJ cZ cA : ClassId) (q_p0 : Nat) (N_p0 : Nat) (a_p0 : Nat → Int32) : va_W := [(q_p0, .inl (cI, N_p0, .inl a_p0))]
abbrev rm_J7_fill_53178 : Room := { frames := 0, cells := 0, slots := 0, locals := 0 }
def g_J7_fill_53178_5b (N_p0 : Nat) (x1 : Int32) (k5 : Int32 → Int32 → (Nat → Int32) → Option ((Nat → Int32))) (x2 : Int32) (x3 : Int32) (a_p0 : Nat → Int32) : Option ((Nat → Int32)) :=
  if x3 ≤ x2 then (
    some (a_p0)
  ) else (
    if x2 < 0 ∨ N_p0 ≤ x2.toNatClampNeg then none else
    k5 (x2 + 1) x3 (upd a_p0 (x2.toNatClampNeg) x1)
  )
def g_J7_fill_53178_5 (N_p0 : Nat) (x1 : Int32) : Nat → Int32 → Int32 → (Nat → Int32) → Option ((Nat → Int32))
  | 0, _, _, _ => none
  | n + 1, x2, x3, a_p0 => g_J7_fill_53178_5b N_p0 x1 (g_J7_fill_53178_5 N_p0 x1 n) x2 x3 a_p0
def g_J7_fill_53178 (N_p0 : Nat) (x1 : Int32) (a_p0 : Nat → Int32) : Option ((Nat → Int32)) :=
  g_J7_fill_53178_5 N_p0 x1 zF 0 (Int32.ofNat N_p0) a_p0
theorem hd_J7_fill_53178 : yJ7_fill_53178.cls ≠ "java/lang/invoke/MethodHandle" ∧ yJ7_fill_53178.cls ≠ "java/lang/invoke/VarHandle" ∧ (parseMethodDescriptor yJ7_fill_53178.desc).map (fun d => d.parameters.length) = some 2 := by decide +kernel
set_option maxHeartbeats 4000000 in
set_option maxRecDepth 100000 in
theorem c_J7_fill_53178 (l : Launch) (D : va_G) (cI cJ cZ cA : ClassId) (ga : Nat → Nat) (q_p0 : Nat) (N_p0 : Nat) (a_p0 : Nat → Int32) (x1 : Int32) (o : (Nat → Int32)) (hg : g_J7_fill_53178 N_p0 x1 a_p0 = some o) : zM l yJ7_fill_53178 (Cond.code yJ7_fill_53178 cJ7_fill_53178 4 none :: wsL_law) rm_J7_fill_53178 D (zTy cI cJ cZ cA) ga [.ref q_p0, .int x1] (ws_J7_fill_53178 cI cJ cZ cA q_p0 N_p0 a_p0) (ws_J7_fill_53178 cI cJ cZ cA q_p0 N_p0 o) none := by
  refine zenterV (own := RJ7) (by decide) rfl rfl (Nat.le_of_ble_eq_true rfl) ?_
  intro p e s m args below meth c A ls Q S hA hK hG hl hP hD hS hret0
  have hx := S.1
  have hb := S.2.1
  have ht : ∀ w, w ∈ wsL_law → w.before args s = true := fun w h => S.2.2.2.2 w (List.mem_cons_of_mem _ h)
  have hret : ∀ (a_p0 : Nat → Int32), (some (a_p0) : Option ((Nat → Int32))) = some o → ∀ (H : Heap) (locs : List Loc) (pc : Nat) (ls : Array Slot), va_P D vwCl (ws_J7_fill_53178 cI cJ cZ cA q_p0 N_p0 a_p0) H → va_S A s.heap H locs → decode cJ7_fill_53178 pc = .ok (.return_, 1) → W p l e rm_J7_fill_53178 s m args below meth c H locs 0 0 Q (F0 m pc ls []) := by
    intro a_p0 he; cases he; exact hret0
  have hl : lv_has ls 4 [(0, .ref q_p0), (1, .int x1)] := hl
  have B5 : ∀  (n : Nat) (x2 : Int32) (x3 : Int32) (a_p0 : Nat → Int32) (H : Heap) (locs : List Loc) (ls : Array Slot) (hl : lv_has ls 4 [(0, .ref q_p0), (1, .int x1), (2, .int x2), (3, .int x3)]) (hP : va_P D vwCl (ws_J7_fill_53178 cI cJ cZ cA q_p0 N_p0 a_p0) H) (hD : va_D A (ws_J7_fill_53178 cI cJ cZ cA q_p0 N_p0 a_p0)) (hS : va_S A s.heap H locs), g_J7_fill_53178_5 N_p0 x1 n x2 x3 a_p0 = some o → W p l e rm_J7_fill_53178 s m args below meth c H locs 0 0 Q (F0 m 5 ls []) := by
    intro  n
    induction n with
    | zero => intro x2 x3 a_p0 H locs ls hl hP hD hS hg; exact nomatch (show (none : Option ((Nat → Int32))) = some o from hg)
    | succ n ih =>
      intro x2 x3 a_p0 H locs ls hl hP hD hS hg
      have hg : g_J7_fill_53178_5b N_p0 x1 (g_J7_fill_53178_5 N_p0 x1 n) x2 x3 a_p0 = some o := hg
      refine lv_iload_n hx hb dJ7_fill_53178_5 rfl (lv_at hl 2 rfl) ?_
      refine lv_iload_n hx hb dJ7_fill_53178_6 rfl (lv_at hl 3 rfl) ?_
      refine lv_icmp_ge (tgt := 20) hx hb dJ7_fill_53178_7 (by decide) (fun h7 => ?_) (fun h7 => ?_)
      · have hg := zp hg h7
        exact hret a_p0 hg _ _ _ _ hP hS dJ7_fill_53178_20
      · have hg := zn hg h7
        refine lv_aload_n hx hb dJ7_fill_53178_10 rfl (lv_at hl 0 rfl) ?_
        refine lv_iload_n hx hb dJ7_fill_53178_11 rfl (lv_at hl 2 rfl) ?_
        refine lv_iload_n hx hb dJ7_fill_53178_12 rfl (lv_at hl 1 rfl) ?_
        obtain ⟨h1, hg⟩ := zck hg
        refine ziast hx hb hK hP hD hS 0 0 rfl rfl (j := (x2.toNatClampNeg)) h1 rfl dJ7_fill_53178_13 (w2 := (ws_J7_fill_53178 cI cJ cZ cA q_p0 N_p0 (upd a_p0 (x2.toNatClampNeg) x1))) rfl (fun H locs hP hD hS => ?_)
        refine lv_iinc (k := 2) (v := x2 + 1) (lv' := [(2, .int (x2 + 1)), (0, .ref q_p0), (1, .int x1), (3, .int x3)]) hx hb dJ7_fill_53178_14 hl rfl (zinc (by decide)) (by decide) rfl (fun ls hl => ?_)
        refine lv_goto (tgt := 5) hx hb dJ7_fill_53178_17 (by decide) ?_
        exact ih (x2 + 1) x3 (upd a_p0 (x2.toNatClampNeg) x1) _ _ _ (lv_sub hl [1, 2, 0, 3] rfl) hP hD hS hg
  refine lv_iconst (v := 0) hx hb dJ7_fill_53178_0 (by decide) ?_
  refine lv_istore_n (lv' := [(2, .int 0), (0, .ref q_p0), (1, .int x1)]) hx hb dJ7_fill_53178_1 rfl hl (by decide) rfl (fun ls hl => ?_)
  refine lv_aload_n hx hb dJ7_fill_53178_2 rfl (lv_at hl 1 rfl) ?_
  refine va_alen (v := Int32.ofNat N_p0) hx hb hK hP 0 0 rfl rfl rfl dJ7_fill_53178_3 ?_
  refine lv_istore_n (lv' := [(3, .int (Int32.ofNat N_p0)), (2, .int 0), (0, .ref q_p0), (1, .int x1)]) hx hb dJ7_fill_53178_4 rfl hl (by decide) rfl (fun ls hl => ?_)
  exact B5 zF 0 (Int32.ofNat N_p0) a_p0 _ _ _ (lv_sub hl [2, 3, 1, 0] rfl) hP hD hS hg

/-! SpokenClock$Day.fillTalkers()V -/
abbrev ws_X1_fillTalkers (cI cJ cZ cA : ClassId) (q_X_day q_X_day_talkers q_X_now q_X_now_talks q_X_now_talks_cells : Nat) (u_X_day_rule : Value) (u_X_day_clocks : Value) (u_X_day_isStale : Value) (u_X_now_people : Value) (u_X_now_dues : Value) (u_X_now_sights : Value) (u_X_now_rule : Value) (u_X_now_settings : Value) (u_X_now_stake : Value) (u_X_now_talks_limit : Value) (N_X_now_talks_cells : Nat) (a_X_day_talkers : Nat → Int32) (v_X_now_talks_width : Int32) (v_X_now_talks_size : Int32) (a_X_now_talks_cells : Nat → Int32) : va_W := [(q_X_day, .inr (1, [.ref q_X_now, u_X_day_rule, .ref q_X_day_talkers, u_X_day_clocks, u_X_day_isStale])), (q_X_day_talkers, .inl (cI, 240, .inl a_X_day_talkers)), (q_X_now, .inr (9, [u_X_now_people, .ref q_X_now_talks, u_X_now_dues, u_X_now_sights, u_X_now_rule, u_X_now_settings, u_X_now_stake])), (q_X_now_talks, .inr (7, [.int v_X_now_talks_width, u_X_now_talks_limit, .ref q_X_now_talks_cells, .int v_X_now_talks_size])), (q_X_now_talks_cells, .inl (cI, N_X_now_talks_cells, .inl a_X_now_talks_cells))]
abbrev rm_X1_fillTalkers : Room := { frames := 1, cells := 0, slots := 0, locals := 32 }
def g_X1_fillTalkers_76b (N_X_now_talks_cells : Nat) (v_X_now_talks_width : Int32) (v_X_now_talks_size : Int32) (a_X_now_talks_cells : Nat → Int32) (k10 : Int32 → (Nat → Int32) → Option ((Nat → Int32))) (k76 : Int32 → Int32 → Int32 → Int32 → (Nat → Int32) → Option ((Nat → Int32))) (x1 : Int32) (x2 : Int32) (x3 : Int32) (x4 : Int32) (a_X_day_talkers : Nat → Int32) : Option ((Nat → Int32)) :=
  if x3 ≤ x4 then (
    k10 (x1 + 1) a_X_day_talkers
  ) else (
    if x4 < 0 ∨ 240 ≤ x4.toNatClampNeg then none else
    if x4 < 0 ∨ 240 ≤ x4.toNatClampNeg then none else
    k76 x1 x2 x3 (x4 + 1) (upd a_X_day_talkers (x4.toNatClampNeg) ((a_X_day_talkers (x4.toNatClampNeg)) ||| x2))
  )
def g_X1_fillTalkers_76 (N_X_now_talks_cells : Nat) (v_X_now_talks_width : Int32) (v_X_now_talks_size : Int32) (a_X_now_talks_cells : Nat → Int32) (k10 : Int32 → (Nat → Int32) → Option ((Nat → Int32))) : Nat → Int32 → Int32 → Int32 → Int32 → (Nat → Int32) → Option ((Nat → Int32))
  | 0, _, _, _, _, _ => none
  | n + 1, x1, x2, x3, x4, a_X_day_talkers => g_X1_fillTalkers_76b N_X_now_talks_cells v_X_now_talks_width v_X_now_talks_size a_X_now_talks_cells k10 (g_X1_fillTalkers_76 N_X_now_talks_cells v_X_now_talks_width v_X_now_talks_size a_X_now_talks_cells k10 n) x1 x2 x3 x4 a_X_day_talkers
def g_X1_fillTalkers_10b (N_X_now_talks_cells : Nat) (v_X_now_talks_width : Int32) (v_X_now_talks_size : Int32) (a_X_now_talks_cells : Nat → Int32) (k10 : Int32 → (Nat → Int32) → Option ((Nat → Int32))) (x1 : Int32) (a_X_day_talkers : Nat → Int32) : Option ((Nat → Int32)) :=
  (g_X7_size v_X_now_talks_size).bind fun v3 =>
  if v3 ≤ x1 then (
    some (a_X_day_talkers)
  ) else (
    (g_X7_at N_X_now_talks_cells v_X_now_talks_width v_X_now_talks_size a_X_now_talks_cells x1 0).bind fun v5 =>
    (g_X7_at N_X_now_talks_cells v_X_now_talks_width v_X_now_talks_size a_X_now_talks_cells x1 2).bind fun v7 =>
    (g_X7_at N_X_now_talks_cells v_X_now_talks_width v_X_now_talks_size a_X_now_talks_cells x1 1).bind fun v9 =>
    g_X1_fillTalkers_76 N_X_now_talks_cells v_X_now_talks_width v_X_now_talks_size a_X_now_talks_cells k10 zF x1 (1 <<< (v5 &&& 31)) (if (240 : Int32) < v7 then (240 : Int32) else v7) (if v9 < (0 : Int32) then (0 : Int32) else v9) a_X_day_talkers
  )
def g_X1_fillTalkers_10 (N_X_now_talks_cells : Nat) (v_X_now_talks_width : Int32) (v_X_now_talks_size : Int32) (a_X_now_talks_cells : Nat → Int32) : Nat → Int32 → (Nat → Int32) → Option ((Nat → Int32))
  | 0, _, _ => none
  | n + 1, x1, a_X_day_talkers => g_X1_fillTalkers_10b N_X_now_talks_cells v_X_now_talks_width v_X_now_talks_size a_X_now_talks_cells (g_X1_fillTalkers_10 N_X_now_talks_cells v_X_now_talks_width v_X_now_talks_size a_X_now_talks_cells n) x1 a_X_day_talkers
def g_X1_fillTalkers (N_X_now_talks_cells : Nat) (v_X_now_talks_width : Int32) (v_X_now_talks_size : Int32) (a_X_now_talks_cells : Nat → Int32) (a_X_day_talkers : Nat → Int32) : Option ((Nat → Int32)) :=
  (g_J7_fill_53178 240 0 a_X_day_talkers).bind fun v1 =>
  g_X1_fillTalkers_10 N_X_now_talks_cells v_X_now_talks_width v_X_now_talks_size a_X_now_talks_cells zF 0 v1
theorem hd_X1_fillTalkers : yX1_fillTalkers.cls = RX1 ∧ yX1_fillTalkers.cls ≠ "java/lang/invoke/MethodHandle" ∧ yX1_fillTalkers.cls ≠ "java/lang/invoke/VarHandle" ∧ (parseMethodDescriptor yX1_fillTalkers.desc).map (fun d => d.parameters.length) = some 0 := by decide +kernel
set_option maxHeartbeats 4000000 in
set_option maxRecDepth 100000 in
theorem c_X1_fillTalkers (l : Launch) (D : va_G) (cI cJ cZ cA : ClassId) (ga : Nat → Nat) (q_X_day q_X_day_talkers q_X_now q_X_now_talks q_X_now_talks_cells : Nat) (u_X_day_rule : Value) (u_X_day_clocks : Value) (u_X_day_isStale : Value) (u_X_now_people : Value) (u_X_now_dues : Value) (u_X_now_sights : Value) (u_X_now_rule : Value) (u_X_now_settings : Value) (u_X_now_stake : Value) (u_X_now_talks_limit : Value) (N_X_now_talks_cells : Nat) (a_X_day_talkers : Nat → Int32) (v_X_now_talks_width : Int32) (v_X_now_talks_size : Int32) (a_X_now_talks_cells : Nat → Int32) (o : (Nat → Int32)) (hg : g_X1_fillTalkers N_X_now_talks_cells v_X_now_talks_width v_X_now_talks_size a_X_now_talks_cells a_X_day_talkers = some o) : zM l yX1_fillTalkers (Cond.code yX1_fillTalkers cX1_fillTalkers 5 none :: wsL_law) rm_X1_fillTalkers D (zTy cI cJ cZ cA) ga [.ref q_X_day] (ws_X1_fillTalkers cI cJ cZ cA q_X_day q_X_day_talkers q_X_now q_X_now_talks q_X_now_talks_cells u_X_day_rule u_X_day_clocks u_X_day_isStale u_X_now_people u_X_now_dues u_X_now_sights u_X_now_rule u_X_now_settings u_X_now_stake u_X_now_talks_limit N_X_now_talks_cells a_X_day_talkers v_X_now_talks_width v_X_now_talks_size a_X_now_talks_cells) (ws_X1_fillTalkers cI cJ cZ cA q_X_day q_X_day_talkers q_X_now q_X_now_talks q_X_now_talks_cells u_X_day_rule u_X_day_clocks u_X_day_isStale u_X_now_people u_X_now_dues u_X_now_sights u_X_now_rule u_X_now_settings u_X_now_stake u_X_now_talks_limit N_X_now_talks_cells o v_X_now_talks_width v_X_now_talks_size a_X_now_talks_cells) none := by
  refine zenterV (own := RX1) (by decide) rfl rfl (Nat.le_of_ble_eq_true rfl) ?_
  intro p e s m args below meth c A ls Q S hA hK hG hl hP hD hS hret0
  have hx := S.1
  have hb := S.2.1
  have ht : ∀ w, w ∈ wsL_law → w.before args s = true := fun w h => S.2.2.2.2 w (List.mem_cons_of_mem _ h)
  have hret : ∀ (a_X_day_talkers : Nat → Int32), (some (a_X_day_talkers) : Option ((Nat → Int32))) = some o → ∀ (H : Heap) (locs : List Loc) (pc : Nat) (ls : Array Slot), va_P D vwCl (ws_X1_fillTalkers cI cJ cZ cA q_X_day q_X_day_talkers q_X_now q_X_now_talks q_X_now_talks_cells u_X_day_rule u_X_day_clocks u_X_day_isStale u_X_now_people u_X_now_dues u_X_now_sights u_X_now_rule u_X_now_settings u_X_now_stake u_X_now_talks_limit N_X_now_talks_cells a_X_day_talkers v_X_now_talks_width v_X_now_talks_size a_X_now_talks_cells) H → va_S A s.heap H locs → decode cX1_fillTalkers pc = .ok (.return_, 1) → W p l e rm_X1_fillTalkers s m args below meth c H locs 0 0 Q (F0 m pc ls []) := by
    intro a_X_day_talkers he; cases he; exact hret0
  have hl : lv_has ls 5 [(0, .ref q_X_day)] := hl
  have B76 : ∀ (k10 : Int32 → (Nat → Int32) → Option ((Nat → Int32))) (hk10 : ∀ (x1 : Int32) (a_X_day_talkers : Nat → Int32) (H : Heap) (locs : List Loc) (ls : Array Slot) (hl : lv_has ls 5 [(0, .ref q_X_day), (1, .int x1)]) (hP : va_P D vwCl (ws_X1_fillTalkers cI cJ cZ cA q_X_day q_X_day_talkers q_X_now q_X_now_talks q_X_now_talks_cells u_X_day_rule u_X_day_clocks u_X_day_isStale u_X_now_people u_X_now_dues u_X_now_sights u_X_now_rule u_X_now_settings u_X_now_stake u_X_now_talks_limit N_X_now_talks_cells a_X_day_talkers v_X_now_talks_width v_X_now_talks_size a_X_now_talks_cells) H) (hD : va_D A (ws_X1_fillTalkers cI cJ cZ cA q_X_day q_X_day_talkers q_X_now q_X_now_talks q_X_now_talks_cells u_X_day_rule u_X_day_clocks u_X_day_isStale u_X_now_people u_X_now_dues u_X_now_sights u_X_now_rule u_X_now_settings u_X_now_stake u_X_now_talks_limit N_X_now_talks_cells a_X_day_talkers v_X_now_talks_width v_X_now_talks_size a_X_now_talks_cells)) (hS : va_S A s.heap H locs), k10 x1 a_X_day_talkers = some o → W p l e rm_X1_fillTalkers s m args below meth c H locs 0 0 Q (F0 m 10 ls []))  (n : Nat) (x1 : Int32) (x2 : Int32) (x3 : Int32) (x4 : Int32) (a_X_day_talkers : Nat → Int32) (H : Heap) (locs : List Loc) (ls : Array Slot) (hl : lv_has ls 5 [(0, .ref q_X_day), (1, .int x1), (2, .int x2), (3, .int x3), (4, .int x4)]) (hP : va_P D vwCl (ws_X1_fillTalkers cI cJ cZ cA q_X_day q_X_day_talkers q_X_now q_X_now_talks q_X_now_talks_cells u_X_day_rule u_X_day_clocks u_X_day_isStale u_X_now_people u_X_now_dues u_X_now_sights u_X_now_rule u_X_now_settings u_X_now_stake u_X_now_talks_limit N_X_now_talks_cells a_X_day_talkers v_X_now_talks_width v_X_now_talks_size a_X_now_talks_cells) H) (hD : va_D A (ws_X1_fillTalkers cI cJ cZ cA q_X_day q_X_day_talkers q_X_now q_X_now_talks q_X_now_talks_cells u_X_day_rule u_X_day_clocks u_X_day_isStale u_X_now_people u_X_now_dues u_X_now_sights u_X_now_rule u_X_now_settings u_X_now_stake u_X_now_talks_limit N_X_now_talks_cells a_X_day_talkers v_X_now_talks_width v_X_now_talks_size a_X_now_talks_cells)) (hS : va_S A s.heap H locs), g_X1_fillTalkers_76 N_X_now_talks_cells v_X_now_talks_width v_X_now_talks_size a_X_now_talks_cells k10 n x1 x2 x3 x4 a_X_day_talkers = some o → W p l e rm_X1_fillTalkers s m args below meth c H locs 0 0 Q (F0 m 76 ls []) := by
    intro k10 hk10 n
    induction n with
    | zero => intro x1 x2 x3 x4 a_X_day_talkers H locs ls hl hP hD hS hg; exact nomatch (show (none : Option ((Nat → Int32))) = some o from hg)
    | succ n ih =>
      intro x1 x2 x3 x4 a_X_day_talkers H locs ls hl hP hD hS hg
      have hg : g_X1_fillTalkers_76b N_X_now_talks_cells v_X_now_talks_width v_X_now_talks_size a_X_now_talks_cells k10 (g_X1_fillTalkers_76 N_X_now_talks_cells v_X_now_talks_width v_X_now_talks_size a_X_now_talks_cells k10 n) x1 x2 x3 x4 a_X_day_talkers = some o := hg
      refine lv_iload hx hb dX1_fillTalkers_76 (lv_at hl 4 rfl) ?_
      refine lv_iload_n hx hb dX1_fillTalkers_78 rfl (lv_at hl 3 rfl) ?_
      refine lv_icmp_ge (tgt := 99) hx hb dX1_fillTalkers_79 (by decide) (fun h79 => ?_) (fun h79 => ?_)
      · have hg := zp hg h79
        refine lv_iinc (k := 1) (v := x1 + 1) (lv' := [(1, .int (x1 + 1)), (0, .ref q_X_day), (2, .int x2), (3, .int x3), (4, .int x4)]) hx hb dX1_fillTalkers_99 hl rfl (zinc (by decide)) (by decide) rfl (fun ls hl => ?_)
        refine lv_goto (tgt := 10) hx hb dX1_fillTalkers_102 (by decide) ?_
        exact hk10 (x1 + 1) a_X_day_talkers _ _ _ (lv_sub hl [1, 0] rfl) hP hD hS hg
      · have hg := zn hg h79
        refine lv_aload_n hx hb dX1_fillTalkers_82 rfl (lv_at hl 0 rfl) ?_
        refine zget (C := RX1) (T := TX1) (N := 5) S hK hP 0 rfl rfl 2 (Nat.le_of_ble_eq_true rfl) zf_1 zw_116 rfl dX1_fillTalkers_83 ?_
        refine lv_iload hx hb dX1_fillTalkers_86 (lv_at hl 4 rfl) ?_
        refine lv_dup2_11 hx hb dX1_fillTalkers_88 rfl rfl ?_
        obtain ⟨h11, hg⟩ := zck hg
        refine ziald hx hb hK hP 1 0 rfl rfl (j := (x4.toNatClampNeg)) h11 rfl dX1_fillTalkers_89 ?_
        refine lv_iload_n hx hb dX1_fillTalkers_90 rfl (lv_at hl 2 rfl) ?_
        refine lv_ior hx hb dX1_fillTalkers_91 ?_
        obtain ⟨h12, hg⟩ := zck hg
        refine ziast hx hb hK hP hD hS 1 0 rfl rfl (j := (x4.toNatClampNeg)) h12 rfl dX1_fillTalkers_92 (w2 := (ws_X1_fillTalkers cI cJ cZ cA q_X_day q_X_day_talkers q_X_now q_X_now_talks q_X_now_talks_cells u_X_day_rule u_X_day_clocks u_X_day_isStale u_X_now_people u_X_now_dues u_X_now_sights u_X_now_rule u_X_now_settings u_X_now_stake u_X_now_talks_limit N_X_now_talks_cells (upd a_X_day_talkers (x4.toNatClampNeg) ((a_X_day_talkers (x4.toNatClampNeg)) ||| x2)) v_X_now_talks_width v_X_now_talks_size a_X_now_talks_cells)) rfl (fun H locs hP hD hS => ?_)
        refine lv_iinc (k := 4) (v := x4 + 1) (lv' := [(4, .int (x4 + 1)), (0, .ref q_X_day), (1, .int x1), (2, .int x2), (3, .int x3)]) hx hb dX1_fillTalkers_93 hl rfl (zinc (by decide)) (by decide) rfl (fun ls hl => ?_)
        refine lv_goto (tgt := 76) hx hb dX1_fillTalkers_96 (by decide) ?_
        exact ih x1 x2 x3 (x4 + 1) (upd a_X_day_talkers (x4.toNatClampNeg) ((a_X_day_talkers (x4.toNatClampNeg)) ||| x2)) _ _ _ (lv_sub hl [1, 2, 3, 4, 0] rfl) hP hD hS hg
  have B10 : ∀  (n : Nat) (x1 : Int32) (a_X_day_talkers : Nat → Int32) (H : Heap) (locs : List Loc) (ls : Array Slot) (hl : lv_has ls 5 [(0, .ref q_X_day), (1, .int x1)]) (hP : va_P D vwCl (ws_X1_fillTalkers cI cJ cZ cA q_X_day q_X_day_talkers q_X_now q_X_now_talks q_X_now_talks_cells u_X_day_rule u_X_day_clocks u_X_day_isStale u_X_now_people u_X_now_dues u_X_now_sights u_X_now_rule u_X_now_settings u_X_now_stake u_X_now_talks_limit N_X_now_talks_cells a_X_day_talkers v_X_now_talks_width v_X_now_talks_size a_X_now_talks_cells) H) (hD : va_D A (ws_X1_fillTalkers cI cJ cZ cA q_X_day q_X_day_talkers q_X_now q_X_now_talks q_X_now_talks_cells u_X_day_rule u_X_day_clocks u_X_day_isStale u_X_now_people u_X_now_dues u_X_now_sights u_X_now_rule u_X_now_settings u_X_now_stake u_X_now_talks_limit N_X_now_talks_cells a_X_day_talkers v_X_now_talks_width v_X_now_talks_size a_X_now_talks_cells)) (hS : va_S A s.heap H locs), g_X1_fillTalkers_10 N_X_now_talks_cells v_X_now_talks_width v_X_now_talks_size a_X_now_talks_cells n x1 a_X_day_talkers = some o → W p l e rm_X1_fillTalkers s m args below meth c H locs 0 0 Q (F0 m 10 ls []) := by
    intro  n
    induction n with
    | zero => intro x1 a_X_day_talkers H locs ls hl hP hD hS hg; exact nomatch (show (none : Option ((Nat → Int32))) = some o from hg)
    | succ n ih =>
      intro x1 a_X_day_talkers H locs ls hl hP hD hS hg
      have hg : g_X1_fillTalkers_10b N_X_now_talks_cells v_X_now_talks_width v_X_now_talks_size a_X_now_talks_cells (g_X1_fillTalkers_10 N_X_now_talks_cells v_X_now_talks_width v_X_now_talks_size a_X_now_talks_cells n) x1 a_X_day_talkers = some o := hg
      refine lv_iload_n hx hb dX1_fillTalkers_10 rfl (lv_at hl 1 rfl) ?_
      refine lv_aload_n hx hb dX1_fillTalkers_11 rfl (lv_at hl 0 rfl) ?_
      refine zget (C := RX1) (T := TX1) (N := 5) S hK hP 0 rfl rfl 0 (Nat.le_of_ble_eq_true rfl) zf_1 zw_120 rfl dX1_fillTalkers_12 ?_
      refine zget (C := RX9) (T := TX9) (N := 7) S hK hP 2 rfl rfl 1 (Nat.le_of_ble_eq_true rfl) zf_9 zw_638 rfl dX1_fillTalkers_15 ?_
      obtain ⟨v3, hc4, hg⟩ := zbd hg
      refine zcallV (rest := [.int x1]) S (c_X7_size l D cI cJ cZ cA ga q_X_now_talks (.int v_X_now_talks_width) u_X_now_talks_limit (.ref q_X_now_talks_cells) v_X_now_talks_size v3 hc4) (zgV zw_644 zw_180 zw_181 zw_32 zw_182) rfl hd_X7_size ⟨rfl, rfl⟩ ⟨Nat.le_of_ble_eq_true rfl, Nat.le_of_ble_eq_true rfl⟩ 3 7 rfl rfl rfl hl.1 rfl (Nat.le_of_ble_eq_true rfl) dX1_fillTalkers_18 hP hD hS hA hK hG (isC := [3]) rfl (by decide +kernel) rfl ⟨Nat.zero_le _, Nat.zero_le _⟩ (pl := [none, none, none, some 0, none]) (nw := 5) rfl (by decide +kernel) (w2 := (ws_X1_fillTalkers cI cJ cZ cA q_X_day q_X_day_talkers q_X_now q_X_now_talks q_X_now_talks_cells u_X_day_rule u_X_day_clocks u_X_day_isStale u_X_now_people u_X_now_dues u_X_now_sights u_X_now_rule u_X_now_settings u_X_now_stake u_X_now_talks_limit N_X_now_talks_cells a_X_day_talkers v_X_now_talks_width v_X_now_talks_size a_X_now_talks_cells)) rfl (st1 := [.int v3, .int x1]) rfl (fun H locs hP hD hS => ?_)
      refine lv_icmp_ge (tgt := 105) hx hb dX1_fillTalkers_21 (by decide) (fun h21 => ?_) (fun h21 => ?_)
      · have hg := zp hg h21
        exact hret a_X_day_talkers hg _ _ _ _ hP hS dX1_fillTalkers_105
      · have hg := zn hg h21
        refine lv_iconst (v := 1) hx hb dX1_fillTalkers_24 (by decide) ?_
        refine lv_aload_n hx hb dX1_fillTalkers_25 rfl (lv_at hl 0 rfl) ?_
        refine zget (C := RX1) (T := TX1) (N := 5) S hK hP 0 rfl rfl 0 (Nat.le_of_ble_eq_true rfl) zf_1 zw_120 rfl dX1_fillTalkers_26 ?_
        refine zget (C := RX9) (T := TX9) (N := 7) S hK hP 2 rfl rfl 1 (Nat.le_of_ble_eq_true rfl) zf_9 zw_638 rfl dX1_fillTalkers_29 ?_
        refine lv_iload_n hx hb dX1_fillTalkers_32 rfl (lv_at hl 1 rfl) ?_
        refine lv_iconst (v := 0) hx hb dX1_fillTalkers_33 (by decide) ?_
        obtain ⟨v5, hc6, hg⟩ := zbd hg
        refine zcallV (rest := [.int 1]) S (c_X7_at l D cI cJ cZ cA ga q_X_now_talks q_X_now_talks_cells u_X_now_talks_limit N_X_now_talks_cells v_X_now_talks_width v_X_now_talks_size a_X_now_talks_cells x1 0 v5 hc6) (zgV zw_645 zw_353 zw_354 zw_32 zw_355) rfl hd_X7_at ⟨rfl, rfl⟩ ⟨Nat.le_of_ble_eq_true rfl, Nat.le_of_ble_eq_true rfl⟩ 3 7 rfl rfl rfl hl.1 rfl (Nat.le_of_ble_eq_true rfl) dX1_fillTalkers_34 hP hD hS hA hK hG (isC := [3, 4]) rfl (by decide +kernel) rfl ⟨Nat.zero_le _, Nat.zero_le _⟩ (pl := [none, none, none, some 0, some 1]) (nw := 5) rfl (by decide +kernel) (w2 := (ws_X1_fillTalkers cI cJ cZ cA q_X_day q_X_day_talkers q_X_now q_X_now_talks q_X_now_talks_cells u_X_day_rule u_X_day_clocks u_X_day_isStale u_X_now_people u_X_now_dues u_X_now_sights u_X_now_rule u_X_now_settings u_X_now_stake u_X_now_talks_limit N_X_now_talks_cells a_X_day_talkers v_X_now_talks_width v_X_now_talks_size a_X_now_talks_cells)) rfl (st1 := [.int v5, .int 1]) rfl (fun H locs hP hD hS => ?_)
        refine lv_ishl hx hb dX1_fillTalkers_37 ?_
        refine lv_istore_n (lv' := [(2, .int (1 <<< (v5 &&& 31))), (0, .ref q_X_day), (1, .int x1)]) hx hb dX1_fillTalkers_38 rfl hl (by decide) rfl (fun ls hl => ?_)
        refine lv_aload_n hx hb dX1_fillTalkers_39 rfl (lv_at hl 1 rfl) ?_
        refine zget (C := RX1) (T := TX1) (N := 5) S hK hP 0 rfl rfl 0 (Nat.le_of_ble_eq_true rfl) zf_1 zw_120 rfl dX1_fillTalkers_40 ?_
        refine zget (C := RX9) (T := TX9) (N := 7) S hK hP 2 rfl rfl 1 (Nat.le_of_ble_eq_true rfl) zf_9 zw_638 rfl dX1_fillTalkers_43 ?_
        refine lv_iload_n hx hb dX1_fillTalkers_46 rfl (lv_at hl 2 rfl) ?_
        refine lv_iconst (v := 2) hx hb dX1_fillTalkers_47 (by decide) ?_
        obtain ⟨v7, hc8, hg⟩ := zbd hg
        refine zcallV (rest := []) S (c_X7_at l D cI cJ cZ cA ga q_X_now_talks q_X_now_talks_cells u_X_now_talks_limit N_X_now_talks_cells v_X_now_talks_width v_X_now_talks_size a_X_now_talks_cells x1 2 v7 hc8) (zgV zw_645 zw_353 zw_354 zw_32 zw_355) rfl hd_X7_at ⟨rfl, rfl⟩ ⟨Nat.le_of_ble_eq_true rfl, Nat.le_of_ble_eq_true rfl⟩ 3 7 rfl rfl rfl hl.1 rfl (Nat.le_of_ble_eq_true rfl) dX1_fillTalkers_48 hP hD hS hA hK hG (isC := [3, 4]) rfl (by decide +kernel) rfl ⟨Nat.zero_le _, Nat.zero_le _⟩ (pl := [none, none, none, some 0, some 1]) (nw := 5) rfl (by decide +kernel) (w2 := (ws_X1_fillTalkers cI cJ cZ cA q_X_day q_X_day_talkers q_X_now q_X_now_talks q_X_now_talks_cells u_X_day_rule u_X_day_clocks u_X_day_isStale u_X_now_people u_X_now_dues u_X_now_sights u_X_now_rule u_X_now_settings u_X_now_stake u_X_now_talks_limit N_X_now_talks_cells a_X_day_talkers v_X_now_talks_width v_X_now_talks_size a_X_now_talks_cells)) rfl (st1 := [.int v7]) rfl (fun H locs hP hD hS => ?_)
        refine lv_sipush (v := 240) hx hb dX1_fillTalkers_51 (by decide) ?_
        refine va_mmin hx hb (S.2.2.1.trans hl.1.symm) S.2.2.2.1 (ht _ zw_633) (ht _ zw_96) (ht _ zw_93) (ht _ zw_97) (Nat.le_of_ble_eq_true rfl) (Nat.le_of_ble_eq_true rfl) (Nat.zero_le _) (Nat.zero_le _) dX1_fillTalkers_54 ?_
        refine lv_istore_n (lv' := [(3, .int (if (240 : Int32) < v7 then (240 : Int32) else v7)), (2, .int (1 <<< (v5 &&& 31))), (0, .ref q_X_day), (1, .int x1)]) hx hb dX1_fillTalkers_57 rfl hl (by decide) rfl (fun ls hl => ?_)
        refine lv_aload_n hx hb dX1_fillTalkers_58 rfl (lv_at hl 2 rfl) ?_
        refine zget (C := RX1) (T := TX1) (N := 5) S hK hP 0 rfl rfl 0 (Nat.le_of_ble_eq_true rfl) zf_1 zw_120 rfl dX1_fillTalkers_59 ?_
        refine zget (C := RX9) (T := TX9) (N := 7) S hK hP 2 rfl rfl 1 (Nat.le_of_ble_eq_true rfl) zf_9 zw_638 rfl dX1_fillTalkers_62 ?_
        refine lv_iload_n hx hb dX1_fillTalkers_65 rfl (lv_at hl 3 rfl) ?_
        refine lv_iconst (v := 1) hx hb dX1_fillTalkers_66 (by decide) ?_
        obtain ⟨v9, hc10, hg⟩ := zbd hg
        refine zcallV (rest := []) S (c_X7_at l D cI cJ cZ cA ga q_X_now_talks q_X_now_talks_cells u_X_now_talks_limit N_X_now_talks_cells v_X_now_talks_width v_X_now_talks_size a_X_now_talks_cells x1 1 v9 hc10) (zgV zw_645 zw_353 zw_354 zw_32 zw_355) rfl hd_X7_at ⟨rfl, rfl⟩ ⟨Nat.le_of_ble_eq_true rfl, Nat.le_of_ble_eq_true rfl⟩ 3 7 rfl rfl rfl hl.1 rfl (Nat.le_of_ble_eq_true rfl) dX1_fillTalkers_67 hP hD hS hA hK hG (isC := [3, 4]) rfl (by decide +kernel) rfl ⟨Nat.zero_le _, Nat.zero_le _⟩ (pl := [none, none, none, some 0, some 1]) (nw := 5) rfl (by decide +kernel) (w2 := (ws_X1_fillTalkers cI cJ cZ cA q_X_day q_X_day_talkers q_X_now q_X_now_talks q_X_now_talks_cells u_X_day_rule u_X_day_clocks u_X_day_isStale u_X_now_people u_X_now_dues u_X_now_sights u_X_now_rule u_X_now_settings u_X_now_stake u_X_now_talks_limit N_X_now_talks_cells a_X_day_talkers v_X_now_talks_width v_X_now_talks_size a_X_now_talks_cells)) rfl (st1 := [.int v9]) rfl (fun H locs hP hD hS => ?_)
        refine lv_iconst (v := 0) hx hb dX1_fillTalkers_70 (by decide) ?_
        refine va_mmax hx hb (S.2.2.1.trans hl.1.symm) S.2.2.2.1 (ht _ zw_639) (ht _ zw_92) (ht _ zw_93) (ht _ zw_94) (Nat.le_of_ble_eq_true rfl) (Nat.le_of_ble_eq_true rfl) (Nat.zero_le _) (Nat.zero_le _) dX1_fillTalkers_71 ?_
        refine lv_istore (lv' := [(4, .int (if v9 < (0 : Int32) then (0 : Int32) else v9)), (3, .int (if (240 : Int32) < v7 then (240 : Int32) else v7)), (2, .int (1 <<< (v5 &&& 31))), (0, .ref q_X_day), (1, .int x1)]) hx hb dX1_fillTalkers_74 hl (by decide) rfl (fun ls hl => ?_)
        exact B76 (g_X1_fillTalkers_10 N_X_now_talks_cells v_X_now_talks_width v_X_now_talks_size a_X_now_talks_cells n) ih zF x1 (1 <<< (v5 &&& 31)) (if (240 : Int32) < v7 then (240 : Int32) else v7) (if v9 < (0 : Int32) then (0 : Int32) else v9) a_X_day_talkers _ _ _ (lv_sub hl [3, 4, 2, 1, 0] rfl) hP hD hS hg
  refine lv_aload_n hx hb dX1_fillTalkers_0 rfl (lv_at hl 0 rfl) ?_
  refine zget (C := RX1) (T := TX1) (N := 5) S hK hP 0 rfl rfl 2 (Nat.le_of_ble_eq_true rfl) zf_1 zw_116 rfl dX1_fillTalkers_1 ?_
  refine lv_iconst (v := 0) hx hb dX1_fillTalkers_4 (by decide) ?_
  obtain ⟨v1, hc2, hg⟩ := zbd hg
  refine zcallS (rest := []) S (c_J7_fill_53178 l D cI cJ cZ cA ga q_X_day_talkers 240 a_X_day_talkers 0 v1 hc2) (zgS zw_640 zw_641 zw_642 zw_643) rfl hd_J7_fill_53178 ⟨rfl, rfl⟩ ⟨Nat.le_of_ble_eq_true rfl, Nat.le_of_ble_eq_true rfl⟩ rfl hl.1 rfl (Nat.le_of_ble_eq_true rfl) dX1_fillTalkers_5 hP hD hS hA hK hG (isC := [1]) rfl (by decide +kernel) rfl ⟨Nat.zero_le _, Nat.zero_le _⟩ (pl := [none, some 0, none, none, none]) (nw := 5) rfl (by decide +kernel) (w2 := (ws_X1_fillTalkers cI cJ cZ cA q_X_day q_X_day_talkers q_X_now q_X_now_talks q_X_now_talks_cells u_X_day_rule u_X_day_clocks u_X_day_isStale u_X_now_people u_X_now_dues u_X_now_sights u_X_now_rule u_X_now_settings u_X_now_stake u_X_now_talks_limit N_X_now_talks_cells v1 v_X_now_talks_width v_X_now_talks_size a_X_now_talks_cells)) rfl (st1 := []) rfl (fun H locs hP hD hS => ?_)
  refine lv_iconst (v := 0) hx hb dX1_fillTalkers_8 (by decide) ?_
  refine lv_istore_n (lv' := [(1, .int 0), (0, .ref q_X_day)]) hx hb dX1_fillTalkers_9 rfl hl (by decide) rfl (fun ls hl => ?_)
  exact B10 zF 0 v1 _ _ _ (lv_sub hl [1, 0] rfl) hP hD hS hg

/-! SpokenClock$Day.isTalking(II)Z -/
abbrev ws_X1_isTalking (cI cJ cZ cA : ClassId) (q_X_day q_X_day_talkers : Nat) (u_X_day_state : Value) (u_X_day_rule : Value) (u_X_day_clocks : Value) (u_X_day_isStale : Value) (a_X_day_talkers : Nat → Int32) : va_W := [(q_X_day, .inr (1, [u_X_day_state, u_X_day_rule, .ref q_X_day_talkers, u_X_day_clocks, u_X_day_isStale])), (q_X_day_talkers, .inl (cI, 240, .inl a_X_day_talkers))]
abbrev rm_X1_isTalking : Room := { frames := 1, cells := 0, slots := 0, locals := 22 }
def g_X1_isTalking (a_X_day_talkers : Nat → Int32) (x1 : Int32) (x2 : Int32) : Option (Int32) :=
  (g_X10_isIn x2 0 239).bind fun v1 =>
  if v1 = 0 then (
    some (0)
  ) else (
    if x2 < 0 ∨ 240 ≤ x2.toNatClampNeg then none else
    if (((a_X_day_talkers (x2.toNatClampNeg)) >>> (x1 &&& 31)) &&& 1) = 0 then (
      some (0)
    ) else (
      some (1)
    )
  )
theorem hd_X1_isTalking : yX1_isTalking.cls = RX1 ∧ yX1_isTalking.cls ≠ "java/lang/invoke/MethodHandle" ∧ yX1_isTalking.cls ≠ "java/lang/invoke/VarHandle" ∧ (parseMethodDescriptor yX1_isTalking.desc).map (fun d => d.parameters.length) = some 2 := by decide +kernel
set_option maxHeartbeats 4000000 in
set_option maxRecDepth 100000 in
theorem c_X1_isTalking (l : Launch) (D : va_G) (cI cJ cZ cA : ClassId) (ga : Nat → Nat) (q_X_day q_X_day_talkers : Nat) (u_X_day_state : Value) (u_X_day_rule : Value) (u_X_day_clocks : Value) (u_X_day_isStale : Value) (a_X_day_talkers : Nat → Int32) (x1 : Int32) (x2 : Int32) (o : Int32) (hg : g_X1_isTalking a_X_day_talkers x1 x2 = some o) : zM l yX1_isTalking (Cond.code yX1_isTalking cX1_isTalking 3 (some .boolean) :: wsL_law) rm_X1_isTalking D (zTy cI cJ cZ cA) ga [.ref q_X_day, .int x1, .int x2] (ws_X1_isTalking cI cJ cZ cA q_X_day q_X_day_talkers u_X_day_state u_X_day_rule u_X_day_clocks u_X_day_isStale a_X_day_talkers) (ws_X1_isTalking cI cJ cZ cA q_X_day q_X_day_talkers u_X_day_state u_X_day_rule u_X_day_clocks u_X_day_isStale a_X_day_talkers) (some (.int o)) := by
  refine zenterN (own := RX1) (by decide) rfl rfl (Nat.le_of_ble_eq_true rfl) ?_
  intro p e s m args below meth c A ls Q S hA hK hG hl hP hD hS hret0
  have hx := S.1
  have hb := S.2.1
  have ht : ∀ w, w ∈ wsL_law → w.before args s = true := fun w h => S.2.2.2.2 w (List.mem_cons_of_mem _ h)
  have hret : ∀ (r9 : Int32), (some (r9) : Option (Int32)) = some o → narrow .boolean (.int r9) = .int r9 → ∀ (H : Heap) (locs : List Loc) (pc : Nat) (ls : Array Slot), va_P D vwCl (ws_X1_isTalking cI cJ cZ cA q_X_day q_X_day_talkers u_X_day_state u_X_day_rule u_X_day_clocks u_X_day_isStale a_X_day_talkers) H → va_S A s.heap H locs → decode cX1_isTalking pc = .ok (.ireturn, 1) → W p l e rm_X1_isTalking s m args below meth c H locs 0 0 Q (F0 m pc ls [.int r9]) := by
    intro r9 he; cases he; exact hret0
  have hl : lv_has ls 3 [(0, .ref q_X_day), (1, .int x1), (2, .int x2)] := hl
  refine lv_iload_n hx hb dX1_isTalking_0 rfl (lv_at hl 2 rfl) ?_
  refine lv_iconst (v := 0) hx hb dX1_isTalking_1 (by decide) ?_
  refine lv_sipush (v := 239) hx hb dX1_isTalking_2 (by decide) ?_
  obtain ⟨v1, hc2, hg⟩ := zbd hg
  refine zcallSN (rest := []) S (c_X10_isIn l D cI cJ cZ cA ga x2 0 239 v1 hc2) (zgI zw_190) rfl hd_X10_isIn hG.1.2.1.2.2.2.2.1 (List.mem_cons_of_mem _ zw_2) (List.mem_cons_of_mem _ zw_189) ⟨rfl, rfl⟩ ⟨Nat.le_of_ble_eq_true rfl, Nat.le_of_ble_eq_true rfl⟩ rfl hl.1 rfl (Nat.le_of_ble_eq_true rfl) dX1_isTalking_5 hP hD hS hA hK hG (isC := []) rfl (by decide +kernel) rfl ⟨Nat.zero_le _, Nat.zero_le _⟩ (pl := [none, none]) (nw := 2) rfl (by decide +kernel) (w2 := (ws_X1_isTalking cI cJ cZ cA q_X_day q_X_day_talkers u_X_day_state u_X_day_rule u_X_day_clocks u_X_day_isStale a_X_day_talkers)) rfl (st1 := [.int v1]) rfl (fun H locs hP hD hS => ?_)
  refine lv_if_eq (tgt := 28) hx hb dX1_isTalking_8 (by decide) (fun h8 => ?_) (fun h8 => ?_)
  · have hg := zp hg h8
    refine lv_iconst (v := 0) hx hb dX1_isTalking_28 (by decide) ?_
    exact hret 0 hg (zb01 (Or.inl rfl)) _ _ _ _ hP hS dX1_isTalking_29
  · have hg := zn hg h8
    refine lv_aload_n hx hb dX1_isTalking_11 rfl (lv_at hl 0 rfl) ?_
    refine zget (C := RX1) (T := TX1) (N := 5) S hK hP 0 rfl rfl 2 (Nat.le_of_ble_eq_true rfl) zf_1 zw_116 rfl dX1_isTalking_12 ?_
    refine lv_iload_n hx hb dX1_isTalking_15 rfl (lv_at hl 2 rfl) ?_
    obtain ⟨h3, hg⟩ := zck hg
    refine ziald hx hb hK hP 1 0 rfl rfl (j := (x2.toNatClampNeg)) h3 rfl dX1_isTalking_16 ?_
    refine lv_iload_n hx hb dX1_isTalking_17 rfl (lv_at hl 1 rfl) ?_
    refine lv_ishr hx hb dX1_isTalking_18 ?_
    refine lv_iconst (v := 1) hx hb dX1_isTalking_19 (by decide) ?_
    refine lv_iand hx hb dX1_isTalking_20 ?_
    refine lv_if_eq (tgt := 28) hx hb dX1_isTalking_21 (by decide) (fun h21 => ?_) (fun h21 => ?_)
    · have hg := zp hg h21
      refine lv_iconst (v := 0) hx hb dX1_isTalking_28 (by decide) ?_
      exact hret 0 hg (zb01 (Or.inl rfl)) _ _ _ _ hP hS dX1_isTalking_29
    · have hg := zn hg h21
      refine lv_iconst (v := 1) hx hb dX1_isTalking_24 (by decide) ?_
      refine lv_goto (tgt := 29) hx hb dX1_isTalking_25 (by decide) ?_
      exact hret 1 hg (zb01 (Or.inr rfl)) _ _ _ _ hP hS dX1_isTalking_29

/-! SpokenClock$Rule.joined(IJJ)J -/
abbrev ws_X8_joined (cI cJ cZ cA : ClassId) : va_W := []
abbrev rm_X8_joined : Room := { frames := 0, cells := 0, slots := 0, locals := 0 }
def g_X8_joined_88 (x0 : Int32) (x1 : Int64) (x3 : Int64) : Option (Int64) :=
  some ((1 : Int64))
def g_X8_joined (x0 : Int32) (x1 : Int64) (x3 : Int64) : Option (Int64) :=
  if x0 = 38 then (
    if (lg_cmp x1 (0 : Int64)) = 0 then (
      some ((0 : Int64))
    ) else (
      if (lg_cmp x3 (0 : Int64)) = 0 then (
        some ((0 : Int64))
      ) else (
        some ((1 : Int64))
      )
    )
  ) else
  if x0 = 42 then (
    some (x1 * x3)
  ) else
  if x0 = 43 then (
    some (x1 + x3)
  ) else
  if x0 = 45 then (
    some (x1 - x3)
  ) else
  if x0 = 60 then (
    if 0 ≤ (lg_cmp x1 x3) then (
      some ((0 : Int64))
    ) else (
      some ((1 : Int64))
    )
  ) else
  if x0 = 61 then (
    if (lg_cmp x1 x3) = 0 then (
      some ((1 : Int64))
    ) else (
      some ((0 : Int64))
    )
  ) else
  if x0 = 62 then (
    if (lg_cmp x1 x3) ≤ 0 then (
      some ((0 : Int64))
    ) else (
      some ((1 : Int64))
    )
  ) else
  if x0 = 124 then (
    if (lg_cmp x1 (0 : Int64)) = 0 then (
      if (lg_cmp x3 (0 : Int64)) = 0 then (
        some ((0 : Int64))
      ) else (
        g_X8_joined_88 x0 x1 x3
      )
    ) else (
      g_X8_joined_88 x0 x1 x3
    )
  ) else
  (
    if (lg_cmp x3 (0 : Int64)) = 0 then (
      some ((0 : Int64))
    ) else (
      if x3 = 0 then none else
      some (x1 / x3)
    )
  )
theorem hd_X8_joined : yX8_joined.cls ≠ "java/lang/invoke/MethodHandle" ∧ yX8_joined.cls ≠ "java/lang/invoke/VarHandle" ∧ (parseMethodDescriptor yX8_joined.desc).map (fun d => d.parameters.length) = some 3 := by decide +kernel
set_option maxHeartbeats 4000000 in
set_option maxRecDepth 100000 in
theorem c_X8_joined (l : Launch) (D : va_G) (cI cJ cZ cA : ClassId) (ga : Nat → Nat) (x0 : Int32) (x1 : Int64) (x3 : Int64) (o : Int64) (hg : g_X8_joined x0 x1 x3 = some o) : zM l yX8_joined (Cond.code yX8_joined cX8_joined 5 (some .long) :: wsL_law) rm_X8_joined D (zTy cI cJ cZ cA) ga [.int x0, .long x1, .long x3] (ws_X8_joined cI cJ cZ cA) (ws_X8_joined cI cJ cZ cA) (some (.long o)) := by
  refine zenterL (own := RX8) (by decide) rfl rfl (Nat.le_of_ble_eq_true rfl) ?_
  intro p e s m args below meth c A ls Q S hA hK hG hl hP hD hS hret0
  have hx := S.1
  have hb := S.2.1
  have ht : ∀ w, w ∈ wsL_law → w.before args s = true := fun w h => S.2.2.2.2 w (List.mem_cons_of_mem _ h)
  have hret : ∀ (r9 : Int64), (some (r9) : Option (Int64)) = some o → ∀ (H : Heap) (locs : List Loc) (pc : Nat) (ls : Array Slot), va_P D vwCl (ws_X8_joined cI cJ cZ cA) H → va_S A s.heap H locs → decode cX8_joined pc = .ok (.lreturn, 1) → W p l e rm_X8_joined s m args below meth c H locs 0 0 Q (F0 m pc ls [.long r9]) := by
    intro r9 he; cases he; exact hret0
  have hl : lv_has ls 5 [(0, .int x0), (1, .long x1), (3, .long x3)] := hl
  have B88 : ∀  (H : Heap) (locs : List Loc) (ls : Array Slot) (hl : lv_has ls 5 []) (hP : va_P D vwCl (ws_X8_joined cI cJ cZ cA) H) (hD : va_D A (ws_X8_joined cI cJ cZ cA)) (hS : va_S A s.heap H locs), g_X8_joined_88 x0 x1 x3 = some o → W p l e rm_X8_joined s m args below meth c H locs 0 0 Q (F0 m 88 ls []) := by
    intro   H locs ls hl hP hD hS hg
    refine lv_lconst (v := 1) hx hb dX8_joined_88 (by decide) ?_
    refine lv_goto (tgt := 93) hx hb dX8_joined_89 (by decide) ?_
    exact hret (1 : Int64) hg _ _ _ _ hP hS dX8_joined_93
  refine lv_iload_n hx hb dX8_joined_0 rfl (lv_at hl 0 rfl) ?_
  by_cases h1_38 : x0 = 38
  · have hg := zp hg h1_38
    refine lv_lookup (off := 93) (tgt := 94) hx hb dX8_joined_1 (by decide) (by rw [h1_38]; decide) (by decide) ?_
    refine lv_lload_n hx hb dX8_joined_94 rfl (lv_at hl 1 rfl) ?_
    refine lv_lconst (v := 0) hx hb dX8_joined_95 (by decide) ?_
    refine W.lcmp hx hb dX8_joined_96 ?_
    refine lv_if_eq (tgt := 110) hx hb dX8_joined_97 (by decide) (fun h97 => ?_) (fun h97 => ?_)
    · have hg := zp hg h97
      refine lv_lconst (v := 0) hx hb dX8_joined_110 (by decide) ?_
      exact hret (0 : Int64) hg _ _ _ _ hP hS dX8_joined_111
    · have hg := zn hg h97
      refine lv_lload_n hx hb dX8_joined_100 rfl (lv_at hl 2 rfl) ?_
      refine lv_lconst (v := 0) hx hb dX8_joined_101 (by decide) ?_
      refine W.lcmp hx hb dX8_joined_102 ?_
      refine lv_if_eq (tgt := 110) hx hb dX8_joined_103 (by decide) (fun h103 => ?_) (fun h103 => ?_)
      · have hg := zp hg h103
        refine lv_lconst (v := 0) hx hb dX8_joined_110 (by decide) ?_
        exact hret (0 : Int64) hg _ _ _ _ hP hS dX8_joined_111
      · have hg := zn hg h103
        refine lv_lconst (v := 1) hx hb dX8_joined_106 (by decide) ?_
        refine lv_goto (tgt := 111) hx hb dX8_joined_107 (by decide) ?_
        exact hret (1 : Int64) hg _ _ _ _ hP hS dX8_joined_111
  · have hg := zn hg h1_38
    by_cases h1_42 : x0 = 42
    · have hg := zp hg h1_42
      refine lv_lookup (off := 155) (tgt := 156) hx hb dX8_joined_1 (by decide) (by rw [h1_42]; decide) (by decide) ?_
      refine lv_lload_n hx hb dX8_joined_156 rfl (lv_at hl 1 rfl) ?_
      refine lv_lload_n hx hb dX8_joined_157 rfl (lv_at hl 2 rfl) ?_
      refine lv_lmul hx hb dX8_joined_158 ?_
      exact hret (x1 * x3) hg _ _ _ _ hP hS dX8_joined_159
    · have hg := zn hg h1_42
      by_cases h1_43 : x0 = 43
      · have hg := zp hg h1_43
        refine lv_lookup (off := 147) (tgt := 148) hx hb dX8_joined_1 (by decide) (by rw [h1_43]; decide) (by decide) ?_
        refine lv_lload_n hx hb dX8_joined_148 rfl (lv_at hl 1 rfl) ?_
        refine lv_lload_n hx hb dX8_joined_149 rfl (lv_at hl 2 rfl) ?_
        refine lv_ladd hx hb dX8_joined_150 ?_
        exact hret (x1 + x3) hg _ _ _ _ hP hS dX8_joined_151
      · have hg := zn hg h1_43
        by_cases h1_45 : x0 = 45
        · have hg := zp hg h1_45
          refine lv_lookup (off := 151) (tgt := 152) hx hb dX8_joined_1 (by decide) (by rw [h1_45]; decide) (by decide) ?_
          refine lv_lload_n hx hb dX8_joined_152 rfl (lv_at hl 1 rfl) ?_
          refine lv_lload_n hx hb dX8_joined_153 rfl (lv_at hl 2 rfl) ?_
          refine lv_lsub hx hb dX8_joined_154 ?_
          exact hret (x1 - x3) hg _ _ _ _ hP hS dX8_joined_155
        · have hg := zn hg h1_45
          by_cases h1_60 : x0 = 60
          · have hg := zp hg h1_60
            refine lv_lookup (off := 111) (tgt := 112) hx hb dX8_joined_1 (by decide) (by rw [h1_60]; decide) (by decide) ?_
            refine lv_lload_n hx hb dX8_joined_112 rfl (lv_at hl 1 rfl) ?_
            refine lv_lload_n hx hb dX8_joined_113 rfl (lv_at hl 2 rfl) ?_
            refine W.lcmp hx hb dX8_joined_114 ?_
            refine lv_if_ge (tgt := 122) hx hb dX8_joined_115 (by decide) (fun h115 => ?_) (fun h115 => ?_)
            · have hg := zp hg h115
              refine lv_lconst (v := 0) hx hb dX8_joined_122 (by decide) ?_
              exact hret (0 : Int64) hg _ _ _ _ hP hS dX8_joined_123
            · have hg := zn hg h115
              refine lv_lconst (v := 1) hx hb dX8_joined_118 (by decide) ?_
              refine lv_goto (tgt := 123) hx hb dX8_joined_119 (by decide) ?_
              exact hret (1 : Int64) hg _ _ _ _ hP hS dX8_joined_123
          · have hg := zn hg h1_60
            by_cases h1_61 : x0 = 61
            · have hg := zp hg h1_61
              refine lv_lookup (off := 135) (tgt := 136) hx hb dX8_joined_1 (by decide) (by rw [h1_61]; decide) (by decide) ?_
              refine lv_lload_n hx hb dX8_joined_136 rfl (lv_at hl 1 rfl) ?_
              refine lv_lload_n hx hb dX8_joined_137 rfl (lv_at hl 2 rfl) ?_
              refine W.lcmp hx hb dX8_joined_138 ?_
              refine lv_if_ne (tgt := 146) hx hb dX8_joined_139 (by decide) (fun h139 => ?_) (fun h139 => ?_)
              · have hg := zn hg h139
                refine lv_lconst (v := 0) hx hb dX8_joined_146 (by decide) ?_
                exact hret (0 : Int64) hg _ _ _ _ hP hS dX8_joined_147
              · have hg := zp hg h139
                refine lv_lconst (v := 1) hx hb dX8_joined_142 (by decide) ?_
                refine lv_goto (tgt := 147) hx hb dX8_joined_143 (by decide) ?_
                exact hret (1 : Int64) hg _ _ _ _ hP hS dX8_joined_147
            · have hg := zn hg h1_61
              by_cases h1_62 : x0 = 62
              · have hg := zp hg h1_62
                refine lv_lookup (off := 123) (tgt := 124) hx hb dX8_joined_1 (by decide) (by rw [h1_62]; decide) (by decide) ?_
                refine lv_lload_n hx hb dX8_joined_124 rfl (lv_at hl 1 rfl) ?_
                refine lv_lload_n hx hb dX8_joined_125 rfl (lv_at hl 2 rfl) ?_
                refine W.lcmp hx hb dX8_joined_126 ?_
                refine lv_if_le (tgt := 134) hx hb dX8_joined_127 (by decide) (fun h127 => ?_) (fun h127 => ?_)
                · have hg := zp hg h127
                  refine lv_lconst (v := 0) hx hb dX8_joined_134 (by decide) ?_
                  exact hret (0 : Int64) hg _ _ _ _ hP hS dX8_joined_135
                · have hg := zn hg h127
                  refine lv_lconst (v := 1) hx hb dX8_joined_130 (by decide) ?_
                  refine lv_goto (tgt := 135) hx hb dX8_joined_131 (by decide) ?_
                  exact hret (1 : Int64) hg _ _ _ _ hP hS dX8_joined_135
              · have hg := zn hg h1_62
                by_cases h1_124 : x0 = 124
                · have hg := zp hg h1_124
                  refine lv_lookup (off := 75) (tgt := 76) hx hb dX8_joined_1 (by decide) (by rw [h1_124]; decide) (by decide) ?_
                  refine lv_lload_n hx hb dX8_joined_76 rfl (lv_at hl 1 rfl) ?_
                  refine lv_lconst (v := 0) hx hb dX8_joined_77 (by decide) ?_
                  refine W.lcmp hx hb dX8_joined_78 ?_
                  refine lv_if_ne (tgt := 88) hx hb dX8_joined_79 (by decide) (fun h79 => ?_) (fun h79 => ?_)
                  · have hg := zn hg h79
                    exact B88  _ _ _ (lv_sub hl [] rfl) hP hD hS hg
                  · have hg := zp hg h79
                    refine lv_lload_n hx hb dX8_joined_82 rfl (lv_at hl 2 rfl) ?_
                    refine lv_lconst (v := 0) hx hb dX8_joined_83 (by decide) ?_
                    refine W.lcmp hx hb dX8_joined_84 ?_
                    refine lv_if_eq (tgt := 92) hx hb dX8_joined_85 (by decide) (fun h85 => ?_) (fun h85 => ?_)
                    · have hg := zp hg h85
                      refine lv_lconst (v := 0) hx hb dX8_joined_92 (by decide) ?_
                      exact hret (0 : Int64) hg _ _ _ _ hP hS dX8_joined_93
                    · have hg := zn hg h85
                      exact B88  _ _ _ (lv_sub hl [] rfl) hP hD hS hg
                · have hg := zn hg h1_124
                  refine lv_lookup (off := 159) (tgt := 160) hx hb dX8_joined_1 (by decide) ((lv_osw h1_38 (by decide)).trans ((lv_osw h1_42 (by decide)).trans ((lv_osw h1_43 (by decide)).trans ((lv_osw h1_45 (by decide)).trans ((lv_osw h1_60 (by decide)).trans ((lv_osw h1_61 (by decide)).trans ((lv_osw h1_62 (by decide)).trans ((lv_osw h1_124 (by decide)).trans (rfl))))))))) (by decide) ?_
                  refine lv_lload_n hx hb dX8_joined_160 rfl (lv_at hl 2 rfl) ?_
                  refine lv_lconst (v := 0) hx hb dX8_joined_161 (by decide) ?_
                  refine W.lcmp hx hb dX8_joined_162 ?_
                  refine lv_if_ne (tgt := 170) hx hb dX8_joined_163 (by decide) (fun h163 => ?_) (fun h163 => ?_)
                  · have hg := zn hg h163
                    refine lv_lload_n hx hb dX8_joined_170 rfl (lv_at hl 1 rfl) ?_
                    refine lv_lload_n hx hb dX8_joined_171 rfl (lv_at hl 2 rfl) ?_
                    obtain ⟨h1, hg⟩ := zck hg
                    refine lv_ldiv hx hb dX8_joined_172 h1 ?_
                    exact hret (x1 / x3) hg _ _ _ _ hP hS dX8_joined_173
                  · have hg := zp hg h163
                    refine lv_lconst (v := 0) hx hb dX8_joined_166 (by decide) ?_
                    refine lv_goto (tgt := 173) hx hb dX8_joined_167 (by decide) ?_
                    exact hret (0 : Int64) hg _ _ _ _ hP hS dX8_joined_173

/-! SpokenClock$Rule.worked()J -/
abbrev ws_X8_worked (cI cJ cZ cA : ClassId) (q_X_rule q_X_rule_stack q_X_rule_row q_X_rule_known : Nat) (u_X_rule_state : Value) (u_X_rule_place : Value) (u_X_rule_fault : Value) (u_X_rule_isStale : Value) (v_X_rule_size : Int32) (a_X_rule_stack : Nat → Int64) (a_X_rule_row : Nat → Int32) (a_X_rule_known : Nat → Int32) : va_W := [(q_X_rule, .inr (8, [u_X_rule_state, .ref q_X_rule_row, .ref q_X_rule_stack, .ref q_X_rule_known, .int v_X_rule_size, u_X_rule_place, u_X_rule_fault, u_X_rule_isStale])), (q_X_rule_stack, .inl (cJ, 40, .inr (.inl a_X_rule_stack))), (q_X_rule_row, .inl (cI, 40, .inl a_X_rule_row)), (q_X_rule_known, .inl (cI, 6, .inl a_X_rule_known))]
abbrev rm_X8_worked : Room := { frames := 1, cells := 0, slots := 0, locals := 24 }
def g_X8_worked_162 (v_X_rule_size : Int32) (a_X_rule_row : Nat → Int32) (a_X_rule_known : Nat → Int32) (k4 : Int32 → Int32 → (Nat → Int64) → Option (Int64 × (Nat → Int64))) (x1 : Int32) (x2 : Int32) (a_X_rule_stack : Nat → Int64) : Option (Int64 × (Nat → Int64)) :=
  k4 x1 (x2 + 1) a_X_rule_stack
def g_X8_worked_78 (v_X_rule_size : Int32) (a_X_rule_row : Nat → Int32) (a_X_rule_known : Nat → Int32) (k4 : Int32 → Int32 → (Nat → Int64) → Option (Int64 × (Nat → Int64))) (x1 : Int32) (x2 : Int32) (t1 : Int32) (t2 : Int64) (a_X_rule_stack : Nat → Int64) : Option (Int64 × (Nat → Int64)) :=
  if t1 < 0 ∨ 40 ≤ t1.toNatClampNeg then none else
  g_X8_worked_162 v_X_rule_size a_X_rule_row a_X_rule_known k4 x1 x2 (vp_updL a_X_rule_stack (t1.toNatClampNeg) t2)
def g_X8_worked_31 (v_X_rule_size : Int32) (a_X_rule_row : Nat → Int32) (a_X_rule_known : Nat → Int32) (k4 : Int32 → Int32 → (Nat → Int64) → Option (Int64 × (Nat → Int64))) (x1 : Int32) (x2 : Int32) (x3 : Int32) (a_X_rule_stack : Nat → Int64) : Option (Int64 × (Nat → Int64)) :=
  if x1 ≤ 0 then (
    g_X8_worked_162 v_X_rule_size a_X_rule_row a_X_rule_known k4 x1 x2 a_X_rule_stack
  ) else (
    if x3 = (-126) then (
      if (x1 - 1) < 0 ∨ 40 ≤ (x1 - 1).toNatClampNeg then none else
      g_X8_worked_78 v_X_rule_size a_X_rule_row a_X_rule_known k4 x1 x2 (x1 - 1) (-(a_X_rule_stack ((x1 - 1).toNatClampNeg))) a_X_rule_stack
    ) else (
      if (x1 - 1) < 0 ∨ 40 ≤ (x1 - 1).toNatClampNeg then none else
      if (lg_cmp (a_X_rule_stack ((x1 - 1).toNatClampNeg)) (0 : Int64)) = 0 then (
        g_X8_worked_78 v_X_rule_size a_X_rule_row a_X_rule_known k4 x1 x2 (x1 - 1) (1 : Int64) a_X_rule_stack
      ) else (
        g_X8_worked_78 v_X_rule_size a_X_rule_row a_X_rule_known k4 x1 x2 (x1 - 1) (0 : Int64) a_X_rule_stack
      )
    )
  )
def g_X8_worked_158 (v_X_rule_size : Int32) (a_X_rule_row : Nat → Int32) (a_X_rule_known : Nat → Int32) (k4 : Int32 → Int32 → (Nat → Int64) → Option (Int64 × (Nat → Int64))) (x1 : Int32) (x2 : Int32) (t1 : Int32) (t2 : Int64) (a_X_rule_stack : Nat → Int64) : Option (Int64 × (Nat → Int64)) :=
  if t1 < 0 ∨ 40 ≤ t1.toNatClampNeg then none else
  g_X8_worked_162 v_X_rule_size a_X_rule_row a_X_rule_known k4 (x1 + 1) x2 (vp_updL a_X_rule_stack (t1.toNatClampNeg) t2)
def g_X8_worked_4b (v_X_rule_size : Int32) (a_X_rule_row : Nat → Int32) (a_X_rule_known : Nat → Int32) (k4 : Int32 → Int32 → (Nat → Int64) → Option (Int64 × (Nat → Int64))) (x1 : Int32) (x2 : Int32) (a_X_rule_stack : Nat → Int64) : Option (Int64 × (Nat → Int64)) :=
  if v_X_rule_size ≤ x2 then (
    if x1 ≤ 0 then (
      some ((0 : Int64), a_X_rule_stack)
    ) else (
      some (a_X_rule_stack 0, a_X_rule_stack)
    )
  ) else (
    if x2 < 0 ∨ 40 ≤ x2.toNatClampNeg then none else
    if (a_X_rule_row (x2.toNatClampNeg)) = (-33) then (
      g_X8_worked_31 v_X_rule_size a_X_rule_row a_X_rule_known k4 x1 x2 (a_X_rule_row (x2.toNatClampNeg)) a_X_rule_stack
    ) else (
      if (a_X_rule_row (x2.toNatClampNeg)) = (-126) then (
        g_X8_worked_31 v_X_rule_size a_X_rule_row a_X_rule_known k4 x1 x2 (a_X_rule_row (x2.toNatClampNeg)) a_X_rule_stack
      ) else (
        if (-6) ≤ (a_X_rule_row (x2.toNatClampNeg)) then (
          if 40 ≤ x1 then (
            g_X8_worked_162 v_X_rule_size a_X_rule_row a_X_rule_known k4 x1 x2 a_X_rule_stack
          ) else (
            if (a_X_rule_row (x2.toNatClampNeg)) < 0 then (
              if ((-1) - (a_X_rule_row (x2.toNatClampNeg))) < 0 ∨ 6 ≤ ((-1) - (a_X_rule_row (x2.toNatClampNeg))).toNatClampNeg then none else
              g_X8_worked_158 v_X_rule_size a_X_rule_row a_X_rule_known k4 x1 x2 x1 ((a_X_rule_known (((-1) - (a_X_rule_row (x2.toNatClampNeg))).toNatClampNeg)).toInt64) a_X_rule_stack
            ) else (
              g_X8_worked_158 v_X_rule_size a_X_rule_row a_X_rule_known k4 x1 x2 x1 ((a_X_rule_row (x2.toNatClampNeg)).toInt64) a_X_rule_stack
            )
          )
        ) else (
          if x1 ≤ 1 then (
            g_X8_worked_162 v_X_rule_size a_X_rule_row a_X_rule_known k4 x1 x2 a_X_rule_stack
          ) else (
            if ((x1 + (-1)) - 1) < 0 ∨ 40 ≤ ((x1 + (-1)) - 1).toNatClampNeg then none else
            if (x1 + (-1)) < 0 ∨ 40 ≤ (x1 + (-1)).toNatClampNeg then none else
            (g_X8_joined (-(a_X_rule_row (x2.toNatClampNeg))) (a_X_rule_stack (((x1 + (-1)) - 1).toNatClampNeg)) (a_X_rule_stack ((x1 + (-1)).toNatClampNeg))).bind fun v9 =>
            if ((x1 + (-1)) - 1) < 0 ∨ 40 ≤ ((x1 + (-1)) - 1).toNatClampNeg then none else
            g_X8_worked_162 v_X_rule_size a_X_rule_row a_X_rule_known k4 (x1 + (-1)) x2 (vp_updL a_X_rule_stack (((x1 + (-1)) - 1).toNatClampNeg) v9)
          )
        )
      )
    )
  )
def g_X8_worked_4 (v_X_rule_size : Int32) (a_X_rule_row : Nat → Int32) (a_X_rule_known : Nat → Int32) : Nat → Int32 → Int32 → (Nat → Int64) → Option (Int64 × (Nat → Int64))
  | 0, _, _, _ => none
  | n + 1, x1, x2, a_X_rule_stack => g_X8_worked_4b v_X_rule_size a_X_rule_row a_X_rule_known (g_X8_worked_4 v_X_rule_size a_X_rule_row a_X_rule_known n) x1 x2 a_X_rule_stack
def g_X8_worked (v_X_rule_size : Int32) (a_X_rule_row : Nat → Int32) (a_X_rule_known : Nat → Int32) (a_X_rule_stack : Nat → Int64) : Option (Int64 × (Nat → Int64)) :=
  g_X8_worked_4 v_X_rule_size a_X_rule_row a_X_rule_known zF 0 0 a_X_rule_stack
theorem hd_X8_worked : yX8_worked.cls = RX8 ∧ yX8_worked.cls ≠ "java/lang/invoke/MethodHandle" ∧ yX8_worked.cls ≠ "java/lang/invoke/VarHandle" ∧ (parseMethodDescriptor yX8_worked.desc).map (fun d => d.parameters.length) = some 0 := by decide +kernel
set_option maxHeartbeats 4000000 in
set_option maxRecDepth 100000 in
theorem c_X8_worked (l : Launch) (D : va_G) (cI cJ cZ cA : ClassId) (ga : Nat → Nat) (q_X_rule q_X_rule_stack q_X_rule_row q_X_rule_known : Nat) (u_X_rule_state : Value) (u_X_rule_place : Value) (u_X_rule_fault : Value) (u_X_rule_isStale : Value) (v_X_rule_size : Int32) (a_X_rule_stack : Nat → Int64) (a_X_rule_row : Nat → Int32) (a_X_rule_known : Nat → Int32) (o : Int64 × (Nat → Int64)) (hg : g_X8_worked v_X_rule_size a_X_rule_row a_X_rule_known a_X_rule_stack = some o) : zM l yX8_worked (Cond.code yX8_worked cX8_worked 4 (some .long) :: wsL_law) rm_X8_worked D (zTy cI cJ cZ cA) ga [.ref q_X_rule] (ws_X8_worked cI cJ cZ cA q_X_rule q_X_rule_stack q_X_rule_row q_X_rule_known u_X_rule_state u_X_rule_place u_X_rule_fault u_X_rule_isStale v_X_rule_size a_X_rule_stack a_X_rule_row a_X_rule_known) (ws_X8_worked cI cJ cZ cA q_X_rule q_X_rule_stack q_X_rule_row q_X_rule_known u_X_rule_state u_X_rule_place u_X_rule_fault u_X_rule_isStale v_X_rule_size o.2 a_X_rule_row a_X_rule_known) (some (.long o.1)) := by
  refine zenterL (own := RX8) (by decide) rfl rfl (Nat.le_of_ble_eq_true rfl) ?_
  intro p e s m args below meth c A ls Q S hA hK hG hl hP hD hS hret0
  have hx := S.1
  have hb := S.2.1
  have ht : ∀ w, w ∈ wsL_law → w.before args s = true := fun w h => S.2.2.2.2 w (List.mem_cons_of_mem _ h)
  have hret : ∀ (r9 : Int64) (a_X_rule_stack : Nat → Int64), (some (r9, a_X_rule_stack) : Option (Int64 × (Nat → Int64))) = some o → ∀ (H : Heap) (locs : List Loc) (pc : Nat) (ls : Array Slot), va_P D vwCl (ws_X8_worked cI cJ cZ cA q_X_rule q_X_rule_stack q_X_rule_row q_X_rule_known u_X_rule_state u_X_rule_place u_X_rule_fault u_X_rule_isStale v_X_rule_size a_X_rule_stack a_X_rule_row a_X_rule_known) H → va_S A s.heap H locs → decode cX8_worked pc = .ok (.lreturn, 1) → W p l e rm_X8_worked s m args below meth c H locs 0 0 Q (F0 m pc ls [.long r9]) := by
    intro r9 a_X_rule_stack he; cases he; exact hret0
  have hl : lv_has ls 4 [(0, .ref q_X_rule)] := hl
  have B162 : ∀ (k4 : Int32 → Int32 → (Nat → Int64) → Option (Int64 × (Nat → Int64))) (hk4 : ∀ (x1 : Int32) (x2 : Int32) (a_X_rule_stack : Nat → Int64) (H : Heap) (locs : List Loc) (ls : Array Slot) (hl : lv_has ls 4 [(0, .ref q_X_rule), (1, .int x1), (2, .int x2)]) (hP : va_P D vwCl (ws_X8_worked cI cJ cZ cA q_X_rule q_X_rule_stack q_X_rule_row q_X_rule_known u_X_rule_state u_X_rule_place u_X_rule_fault u_X_rule_isStale v_X_rule_size a_X_rule_stack a_X_rule_row a_X_rule_known) H) (hD : va_D A (ws_X8_worked cI cJ cZ cA q_X_rule q_X_rule_stack q_X_rule_row q_X_rule_known u_X_rule_state u_X_rule_place u_X_rule_fault u_X_rule_isStale v_X_rule_size a_X_rule_stack a_X_rule_row a_X_rule_known)) (hS : va_S A s.heap H locs), k4 x1 x2 a_X_rule_stack = some o → W p l e rm_X8_worked s m args below meth c H locs 0 0 Q (F0 m 4 ls [])) (x1 : Int32) (x2 : Int32) (a_X_rule_stack : Nat → Int64) (H : Heap) (locs : List Loc) (ls : Array Slot) (hl : lv_has ls 4 [(0, .ref q_X_rule), (1, .int x1), (2, .int x2)]) (hP : va_P D vwCl (ws_X8_worked cI cJ cZ cA q_X_rule q_X_rule_stack q_X_rule_row q_X_rule_known u_X_rule_state u_X_rule_place u_X_rule_fault u_X_rule_isStale v_X_rule_size a_X_rule_stack a_X_rule_row a_X_rule_known) H) (hD : va_D A (ws_X8_worked cI cJ cZ cA q_X_rule q_X_rule_stack q_X_rule_row q_X_rule_known u_X_rule_state u_X_rule_place u_X_rule_fault u_X_rule_isStale v_X_rule_size a_X_rule_stack a_X_rule_row a_X_rule_known)) (hS : va_S A s.heap H locs), g_X8_worked_162 v_X_rule_size a_X_rule_row a_X_rule_known k4 x1 x2 a_X_rule_stack = some o → W p l e rm_X8_worked s m args below meth c H locs 0 0 Q (F0 m 162 ls []) := by
    intro k4 hk4 x1 x2 a_X_rule_stack H locs ls hl hP hD hS hg
    refine lv_iinc (k := 2) (v := x2 + 1) (lv' := [(2, .int (x2 + 1)), (0, .ref q_X_rule), (1, .int x1)]) hx hb dX8_worked_162 hl rfl (zinc (by decide)) (by decide) rfl (fun ls hl => ?_)
    refine lv_goto (tgt := 4) hx hb dX8_worked_165 (by decide) ?_
    exact hk4 x1 (x2 + 1) a_X_rule_stack _ _ _ (lv_sub hl [1, 2, 0] rfl) hP hD hS hg
  have B78 : ∀ (k4 : Int32 → Int32 → (Nat → Int64) → Option (Int64 × (Nat → Int64))) (hk4 : ∀ (x1 : Int32) (x2 : Int32) (a_X_rule_stack : Nat → Int64) (H : Heap) (locs : List Loc) (ls : Array Slot) (hl : lv_has ls 4 [(0, .ref q_X_rule), (1, .int x1), (2, .int x2)]) (hP : va_P D vwCl (ws_X8_worked cI cJ cZ cA q_X_rule q_X_rule_stack q_X_rule_row q_X_rule_known u_X_rule_state u_X_rule_place u_X_rule_fault u_X_rule_isStale v_X_rule_size a_X_rule_stack a_X_rule_row a_X_rule_known) H) (hD : va_D A (ws_X8_worked cI cJ cZ cA q_X_rule q_X_rule_stack q_X_rule_row q_X_rule_known u_X_rule_state u_X_rule_place u_X_rule_fault u_X_rule_isStale v_X_rule_size a_X_rule_stack a_X_rule_row a_X_rule_known)) (hS : va_S A s.heap H locs), k4 x1 x2 a_X_rule_stack = some o → W p l e rm_X8_worked s m args below meth c H locs 0 0 Q (F0 m 4 ls [])) (x1 : Int32) (x2 : Int32) (t1 : Int32) (t2 : Int64) (a_X_rule_stack : Nat → Int64) (H : Heap) (locs : List Loc) (ls : Array Slot) (hl : lv_has ls 4 [(0, .ref q_X_rule), (1, .int x1), (2, .int x2)]) (hP : va_P D vwCl (ws_X8_worked cI cJ cZ cA q_X_rule q_X_rule_stack q_X_rule_row q_X_rule_known u_X_rule_state u_X_rule_place u_X_rule_fault u_X_rule_isStale v_X_rule_size a_X_rule_stack a_X_rule_row a_X_rule_known) H) (hD : va_D A (ws_X8_worked cI cJ cZ cA q_X_rule q_X_rule_stack q_X_rule_row q_X_rule_known u_X_rule_state u_X_rule_place u_X_rule_fault u_X_rule_isStale v_X_rule_size a_X_rule_stack a_X_rule_row a_X_rule_known)) (hS : va_S A s.heap H locs), g_X8_worked_78 v_X_rule_size a_X_rule_row a_X_rule_known k4 x1 x2 t1 t2 a_X_rule_stack = some o → W p l e rm_X8_worked s m args below meth c H locs 0 0 Q (F0 m 78 ls [.long t2, .int t1, .ref q_X_rule_stack]) := by
    intro k4 hk4 x1 x2 t1 t2 a_X_rule_stack H locs ls hl hP hD hS hg
    obtain ⟨h3, hg⟩ := zck hg
    refine zlast hx hb hK hP hD hS 1 1 rfl rfl (j := (t1.toNatClampNeg)) h3 rfl dX8_worked_78 (w2 := (ws_X8_worked cI cJ cZ cA q_X_rule q_X_rule_stack q_X_rule_row q_X_rule_known u_X_rule_state u_X_rule_place u_X_rule_fault u_X_rule_isStale v_X_rule_size (vp_updL a_X_rule_stack (t1.toNatClampNeg) t2) a_X_rule_row a_X_rule_known)) rfl (fun H locs hP hD hS => ?_)
    refine lv_goto (tgt := 162) hx hb dX8_worked_79 (by decide) ?_
    exact B162 k4 hk4 x1 x2 (vp_updL a_X_rule_stack (t1.toNatClampNeg) t2) _ _ _ hl hP hD hS hg
  have B31 : ∀ (k4 : Int32 → Int32 → (Nat → Int64) → Option (Int64 × (Nat → Int64))) (hk4 : ∀ (x1 : Int32) (x2 : Int32) (a_X_rule_stack : Nat → Int64) (H : Heap) (locs : List Loc) (ls : Array Slot) (hl : lv_has ls 4 [(0, .ref q_X_rule), (1, .int x1), (2, .int x2)]) (hP : va_P D vwCl (ws_X8_worked cI cJ cZ cA q_X_rule q_X_rule_stack q_X_rule_row q_X_rule_known u_X_rule_state u_X_rule_place u_X_rule_fault u_X_rule_isStale v_X_rule_size a_X_rule_stack a_X_rule_row a_X_rule_known) H) (hD : va_D A (ws_X8_worked cI cJ cZ cA q_X_rule q_X_rule_stack q_X_rule_row q_X_rule_known u_X_rule_state u_X_rule_place u_X_rule_fault u_X_rule_isStale v_X_rule_size a_X_rule_stack a_X_rule_row a_X_rule_known)) (hS : va_S A s.heap H locs), k4 x1 x2 a_X_rule_stack = some o → W p l e rm_X8_worked s m args below meth c H locs 0 0 Q (F0 m 4 ls [])) (x1 : Int32) (x2 : Int32) (x3 : Int32) (a_X_rule_stack : Nat → Int64) (H : Heap) (locs : List Loc) (ls : Array Slot) (hl : lv_has ls 4 [(0, .ref q_X_rule), (1, .int x1), (2, .int x2), (3, .int x3)]) (hP : va_P D vwCl (ws_X8_worked cI cJ cZ cA q_X_rule q_X_rule_stack q_X_rule_row q_X_rule_known u_X_rule_state u_X_rule_place u_X_rule_fault u_X_rule_isStale v_X_rule_size a_X_rule_stack a_X_rule_row a_X_rule_known) H) (hD : va_D A (ws_X8_worked cI cJ cZ cA q_X_rule q_X_rule_stack q_X_rule_row q_X_rule_known u_X_rule_state u_X_rule_place u_X_rule_fault u_X_rule_isStale v_X_rule_size a_X_rule_stack a_X_rule_row a_X_rule_known)) (hS : va_S A s.heap H locs), g_X8_worked_31 v_X_rule_size a_X_rule_row a_X_rule_known k4 x1 x2 x3 a_X_rule_stack = some o → W p l e rm_X8_worked s m args below meth c H locs 0 0 Q (F0 m 31 ls []) := by
    intro k4 hk4 x1 x2 x3 a_X_rule_stack H locs ls hl hP hD hS hg
    refine lv_iload_n hx hb dX8_worked_31 rfl (lv_at hl 1 rfl) ?_
    refine lv_if_le (tgt := 162) hx hb dX8_worked_32 (by decide) (fun h32 => ?_) (fun h32 => ?_)
    · have hg := zp hg h32
      exact B162 k4 hk4 x1 x2 a_X_rule_stack _ _ _ (lv_sub hl [0, 1, 2] rfl) hP hD hS hg
    · have hg := zn hg h32
      refine lv_aload_n hx hb dX8_worked_35 rfl (lv_at hl 0 rfl) ?_
      refine zget (C := RX8) (T := TX8) (N := 8) S hK hP 0 rfl rfl 2 (Nat.le_of_ble_eq_true rfl) zf_8 zw_108 rfl dX8_worked_36 ?_
      refine lv_iload_n hx hb dX8_worked_39 rfl (lv_at hl 1 rfl) ?_
      refine lv_iconst (v := 1) hx hb dX8_worked_40 (by decide) ?_
      refine lv_isub hx hb dX8_worked_41 ?_
      refine lv_iload_n hx hb dX8_worked_42 rfl (lv_at hl 3 rfl) ?_
      refine lv_bipush (v := (-126)) hx hb dX8_worked_43 (by decide) ?_
      refine lv_icmp_ne (tgt := 60) hx hb dX8_worked_45 (by decide) (fun h45 => ?_) (fun h45 => ?_)
      · have hg := zn hg h45
        refine lv_aload_n hx hb dX8_worked_60 rfl (lv_at hl 0 rfl) ?_
        refine zget (C := RX8) (T := TX8) (N := 8) S hK hP 0 rfl rfl 2 (Nat.le_of_ble_eq_true rfl) zf_8 zw_108 rfl dX8_worked_61 ?_
        refine lv_iload_n hx hb dX8_worked_64 rfl (lv_at hl 1 rfl) ?_
        refine lv_iconst (v := 1) hx hb dX8_worked_65 (by decide) ?_
        refine lv_isub hx hb dX8_worked_66 ?_
        obtain ⟨h2, hg⟩ := zck hg
        refine zlald hx hb hK hP 1 1 rfl rfl (j := ((x1 - 1).toNatClampNeg)) h2 rfl dX8_worked_67 ?_
        refine lv_lconst (v := 0) hx hb dX8_worked_68 (by decide) ?_
        refine W.lcmp hx hb dX8_worked_69 ?_
        refine lv_if_ne (tgt := 77) hx hb dX8_worked_70 (by decide) (fun h70 => ?_) (fun h70 => ?_)
        · have hg := zn hg h70
          refine lv_lconst (v := 0) hx hb dX8_worked_77 (by decide) ?_
          exact B78 k4 hk4 x1 x2 (x1 - 1) (0 : Int64) a_X_rule_stack _ _ _ (lv_sub hl [0, 1, 2] rfl) hP hD hS hg
        · have hg := zp hg h70
          refine lv_lconst (v := 1) hx hb dX8_worked_73 (by decide) ?_
          refine lv_goto (tgt := 78) hx hb dX8_worked_74 (by decide) ?_
          exact B78 k4 hk4 x1 x2 (x1 - 1) (1 : Int64) a_X_rule_stack _ _ _ (lv_sub hl [0, 1, 2] rfl) hP hD hS hg
      · have hg := zp hg h45
        refine lv_aload_n hx hb dX8_worked_48 rfl (lv_at hl 0 rfl) ?_
        refine zget (C := RX8) (T := TX8) (N := 8) S hK hP 0 rfl rfl 2 (Nat.le_of_ble_eq_true rfl) zf_8 zw_108 rfl dX8_worked_49 ?_
        refine lv_iload_n hx hb dX8_worked_52 rfl (lv_at hl 1 rfl) ?_
        refine lv_iconst (v := 1) hx hb dX8_worked_53 (by decide) ?_
        refine lv_isub hx hb dX8_worked_54 ?_
        obtain ⟨h4, hg⟩ := zck hg
        refine zlald hx hb hK hP 1 1 rfl rfl (j := ((x1 - 1).toNatClampNeg)) h4 rfl dX8_worked_55 ?_
        refine lv_lneg hx hb dX8_worked_56 ?_
        refine lv_goto (tgt := 78) hx hb dX8_worked_57 (by decide) ?_
        exact B78 k4 hk4 x1 x2 (x1 - 1) (-(a_X_rule_stack ((x1 - 1).toNatClampNeg))) a_X_rule_stack _ _ _ (lv_sub hl [0, 1, 2] rfl) hP hD hS hg
  have B158 : ∀ (k4 : Int32 → Int32 → (Nat → Int64) → Option (Int64 × (Nat → Int64))) (hk4 : ∀ (x1 : Int32) (x2 : Int32) (a_X_rule_stack : Nat → Int64) (H : Heap) (locs : List Loc) (ls : Array Slot) (hl : lv_has ls 4 [(0, .ref q_X_rule), (1, .int x1), (2, .int x2)]) (hP : va_P D vwCl (ws_X8_worked cI cJ cZ cA q_X_rule q_X_rule_stack q_X_rule_row q_X_rule_known u_X_rule_state u_X_rule_place u_X_rule_fault u_X_rule_isStale v_X_rule_size a_X_rule_stack a_X_rule_row a_X_rule_known) H) (hD : va_D A (ws_X8_worked cI cJ cZ cA q_X_rule q_X_rule_stack q_X_rule_row q_X_rule_known u_X_rule_state u_X_rule_place u_X_rule_fault u_X_rule_isStale v_X_rule_size a_X_rule_stack a_X_rule_row a_X_rule_known)) (hS : va_S A s.heap H locs), k4 x1 x2 a_X_rule_stack = some o → W p l e rm_X8_worked s m args below meth c H locs 0 0 Q (F0 m 4 ls [])) (x1 : Int32) (x2 : Int32) (t1 : Int32) (t2 : Int64) (a_X_rule_stack : Nat → Int64) (H : Heap) (locs : List Loc) (ls : Array Slot) (hl : lv_has ls 4 [(0, .ref q_X_rule), (1, .int x1), (2, .int x2)]) (hP : va_P D vwCl (ws_X8_worked cI cJ cZ cA q_X_rule q_X_rule_stack q_X_rule_row q_X_rule_known u_X_rule_state u_X_rule_place u_X_rule_fault u_X_rule_isStale v_X_rule_size a_X_rule_stack a_X_rule_row a_X_rule_known) H) (hD : va_D A (ws_X8_worked cI cJ cZ cA q_X_rule q_X_rule_stack q_X_rule_row q_X_rule_known u_X_rule_state u_X_rule_place u_X_rule_fault u_X_rule_isStale v_X_rule_size a_X_rule_stack a_X_rule_row a_X_rule_known)) (hS : va_S A s.heap H locs), g_X8_worked_158 v_X_rule_size a_X_rule_row a_X_rule_known k4 x1 x2 t1 t2 a_X_rule_stack = some o → W p l e rm_X8_worked s m args below meth c H locs 0 0 Q (F0 m 158 ls [.long t2, .int t1, .ref q_X_rule_stack]) := by
    intro k4 hk4 x1 x2 t1 t2 a_X_rule_stack H locs ls hl hP hD hS hg
    obtain ⟨h6, hg⟩ := zck hg
    refine zlast hx hb hK hP hD hS 1 1 rfl rfl (j := (t1.toNatClampNeg)) h6 rfl dX8_worked_158 (w2 := (ws_X8_worked cI cJ cZ cA q_X_rule q_X_rule_stack q_X_rule_row q_X_rule_known u_X_rule_state u_X_rule_place u_X_rule_fault u_X_rule_isStale v_X_rule_size (vp_updL a_X_rule_stack (t1.toNatClampNeg) t2) a_X_rule_row a_X_rule_known)) rfl (fun H locs hP hD hS => ?_)
    refine lv_iinc (k := 1) (v := x1 + 1) (lv' := [(1, .int (x1 + 1)), (0, .ref q_X_rule), (2, .int x2)]) hx hb dX8_worked_159 hl rfl (zinc (by decide)) (by decide) rfl (fun ls hl => ?_)
    exact B162 k4 hk4 (x1 + 1) x2 (vp_updL a_X_rule_stack (t1.toNatClampNeg) t2) _ _ _ (lv_sub hl [1, 0, 2] rfl) hP hD hS hg
  have B4 : ∀  (n : Nat) (x1 : Int32) (x2 : Int32) (a_X_rule_stack : Nat → Int64) (H : Heap) (locs : List Loc) (ls : Array Slot) (hl : lv_has ls 4 [(0, .ref q_X_rule), (1, .int x1), (2, .int x2)]) (hP : va_P D vwCl (ws_X8_worked cI cJ cZ cA q_X_rule q_X_rule_stack q_X_rule_row q_X_rule_known u_X_rule_state u_X_rule_place u_X_rule_fault u_X_rule_isStale v_X_rule_size a_X_rule_stack a_X_rule_row a_X_rule_known) H) (hD : va_D A (ws_X8_worked cI cJ cZ cA q_X_rule q_X_rule_stack q_X_rule_row q_X_rule_known u_X_rule_state u_X_rule_place u_X_rule_fault u_X_rule_isStale v_X_rule_size a_X_rule_stack a_X_rule_row a_X_rule_known)) (hS : va_S A s.heap H locs), g_X8_worked_4 v_X_rule_size a_X_rule_row a_X_rule_known n x1 x2 a_X_rule_stack = some o → W p l e rm_X8_worked s m args below meth c H locs 0 0 Q (F0 m 4 ls []) := by
    intro  n
    induction n with
    | zero => intro x1 x2 a_X_rule_stack H locs ls hl hP hD hS hg; exact nomatch (show (none : Option (Int64 × (Nat → Int64))) = some o from hg)
    | succ n ih =>
      intro x1 x2 a_X_rule_stack H locs ls hl hP hD hS hg
      have hg : g_X8_worked_4b v_X_rule_size a_X_rule_row a_X_rule_known (g_X8_worked_4 v_X_rule_size a_X_rule_row a_X_rule_known n) x1 x2 a_X_rule_stack = some o := hg
      refine lv_iload_n hx hb dX8_worked_4 rfl (lv_at hl 2 rfl) ?_
      refine lv_aload_n hx hb dX8_worked_5 rfl (lv_at hl 0 rfl) ?_
      refine zget (C := RX8) (T := TX8) (N := 8) S hK hP 0 rfl rfl 4 (Nat.le_of_ble_eq_true rfl) zf_8 zw_537 rfl dX8_worked_6 ?_
      refine lv_icmp_ge (tgt := 168) hx hb dX8_worked_9 (by decide) (fun h9 => ?_) (fun h9 => ?_)
      · have hg := zp hg h9
        refine lv_iload_n hx hb dX8_worked_168 rfl (lv_at hl 1 rfl) ?_
        refine lv_if_le (tgt := 181) hx hb dX8_worked_169 (by decide) (fun h169 => ?_) (fun h169 => ?_)
        · have hg := zp hg h169
          refine lv_lconst (v := 0) hx hb dX8_worked_181 (by decide) ?_
          exact hret (0 : Int64) a_X_rule_stack hg _ _ _ _ hP hS dX8_worked_182
        · have hg := zn hg h169
          refine lv_aload_n hx hb dX8_worked_172 rfl (lv_at hl 0 rfl) ?_
          refine zget (C := RX8) (T := TX8) (N := 8) S hK hP 0 rfl rfl 2 (Nat.le_of_ble_eq_true rfl) zf_8 zw_108 rfl dX8_worked_173 ?_
          refine lv_iconst (v := 0) hx hb dX8_worked_176 (by decide) ?_
          refine zlald hx hb hK hP 1 1 rfl rfl (j := 0) (zin (by decide)) (by decide) dX8_worked_177 ?_
          refine lv_goto (tgt := 182) hx hb dX8_worked_178 (by decide) ?_
          exact hret (a_X_rule_stack 0) a_X_rule_stack hg _ _ _ _ hP hS dX8_worked_182
      · have hg := zn hg h9
        refine lv_aload_n hx hb dX8_worked_12 rfl (lv_at hl 0 rfl) ?_
        refine zget (C := RX8) (T := TX8) (N := 8) S hK hP 0 rfl rfl 1 (Nat.le_of_ble_eq_true rfl) zf_8 zw_106 rfl dX8_worked_13 ?_
        refine lv_iload_n hx hb dX8_worked_16 rfl (lv_at hl 2 rfl) ?_
        obtain ⟨h1, hg⟩ := zck hg
        refine ziald hx hb hK hP 2 0 rfl rfl (j := (x2.toNatClampNeg)) h1 rfl dX8_worked_17 ?_
        refine lv_istore_n (lv' := [(3, .int (a_X_rule_row (x2.toNatClampNeg))), (0, .ref q_X_rule), (1, .int x1), (2, .int x2)]) hx hb dX8_worked_18 rfl hl (by decide) rfl (fun ls hl => ?_)
        refine lv_iload_n hx hb dX8_worked_19 rfl (lv_at hl 0 rfl) ?_
        refine lv_bipush (v := (-33)) hx hb dX8_worked_20 (by decide) ?_
        refine lv_icmp_eq (tgt := 31) hx hb dX8_worked_22 (by decide) (fun h22 => ?_) (fun h22 => ?_)
        · have hg := zp hg h22
          exact B31 (g_X8_worked_4 v_X_rule_size a_X_rule_row a_X_rule_known n) ih x1 x2 (a_X_rule_row (x2.toNatClampNeg)) a_X_rule_stack _ _ _ (lv_sub hl [1, 2, 3, 0] rfl) hP hD hS hg
        · have hg := zn hg h22
          refine lv_iload_n hx hb dX8_worked_25 rfl (lv_at hl 0 rfl) ?_
          refine lv_bipush (v := (-126)) hx hb dX8_worked_26 (by decide) ?_
          refine lv_icmp_ne (tgt := 82) hx hb dX8_worked_28 (by decide) (fun h28 => ?_) (fun h28 => ?_)
          · have hg := zn hg h28
            refine lv_iload_n hx hb dX8_worked_82 rfl (lv_at hl 0 rfl) ?_
            refine lv_bipush (v := (-6)) hx hb dX8_worked_83 (by decide) ?_
            refine lv_icmp_ge (tgt := 126) hx hb dX8_worked_85 (by decide) (fun h85 => ?_) (fun h85 => ?_)
            · have hg := zp hg h85
              refine lv_iload_n hx hb dX8_worked_126 rfl (lv_at hl 2 rfl) ?_
              refine lv_aload_n hx hb dX8_worked_127 rfl (lv_at hl 1 rfl) ?_
              refine zget (C := RX8) (T := TX8) (N := 8) S hK hP 0 rfl rfl 2 (Nat.le_of_ble_eq_true rfl) zf_8 zw_108 rfl dX8_worked_128 ?_
              refine va_alen (v := 40) hx hb hK hP 1 1 rfl rfl (show Int32.ofNat 40 = 40 by decide) dX8_worked_131 ?_
              refine lv_icmp_ge (tgt := 162) hx hb dX8_worked_132 (by decide) (fun h132 => ?_) (fun h132 => ?_)
              · have hg := zp hg h132
                exact B162 (g_X8_worked_4 v_X_rule_size a_X_rule_row a_X_rule_known n) ih x1 x2 a_X_rule_stack _ _ _ (lv_sub hl [1, 2, 3] rfl) hP hD hS hg
              · have hg := zn hg h132
                refine lv_aload_n hx hb dX8_worked_135 rfl (lv_at hl 1 rfl) ?_
                refine zget (C := RX8) (T := TX8) (N := 8) S hK hP 0 rfl rfl 2 (Nat.le_of_ble_eq_true rfl) zf_8 zw_108 rfl dX8_worked_136 ?_
                refine lv_iload_n hx hb dX8_worked_139 rfl (lv_at hl 2 rfl) ?_
                refine lv_iload_n hx hb dX8_worked_140 rfl (lv_at hl 0 rfl) ?_
                refine lv_if_lt (tgt := 149) hx hb dX8_worked_141 (by decide) (fun h141 => ?_) (fun h141 => ?_)
                · have hg := zp hg h141
                  refine lv_aload_n hx hb dX8_worked_149 rfl (lv_at hl 1 rfl) ?_
                  refine zget (C := RX8) (T := TX8) (N := 8) S hK hP 0 rfl rfl 3 (Nat.le_of_ble_eq_true rfl) zf_8 zw_109 rfl dX8_worked_150 ?_
                  refine lv_iconst (v := (-1)) hx hb dX8_worked_153 (by decide) ?_
                  refine lv_iload_n hx hb dX8_worked_154 rfl (lv_at hl 0 rfl) ?_
                  refine lv_isub hx hb dX8_worked_155 ?_
                  obtain ⟨h5, hg⟩ := zck hg
                  refine ziald hx hb hK hP 3 0 rfl rfl (j := (((-1) - (a_X_rule_row (x2.toNatClampNeg))).toNatClampNeg)) h5 rfl dX8_worked_156 ?_
                  refine lv_i2l hx hb dX8_worked_157 rfl ?_
                  exact B158 (g_X8_worked_4 v_X_rule_size a_X_rule_row a_X_rule_known n) ih x1 x2 x1 ((a_X_rule_known (((-1) - (a_X_rule_row (x2.toNatClampNeg))).toNatClampNeg)).toInt64) a_X_rule_stack _ _ _ (lv_sub hl [1, 2, 3] rfl) hP hD hS hg
                · have hg := zn hg h141
                  refine lv_iload_n hx hb dX8_worked_144 rfl (lv_at hl 0 rfl) ?_
                  refine lv_i2l hx hb dX8_worked_145 rfl ?_
                  refine lv_goto (tgt := 158) hx hb dX8_worked_146 (by decide) ?_
                  exact B158 (g_X8_worked_4 v_X_rule_size a_X_rule_row a_X_rule_known n) ih x1 x2 x1 ((a_X_rule_row (x2.toNatClampNeg)).toInt64) a_X_rule_stack _ _ _ (lv_sub hl [1, 2, 3] rfl) hP hD hS hg
            · have hg := zn hg h85
              refine lv_iload_n hx hb dX8_worked_88 rfl (lv_at hl 2 rfl) ?_
              refine lv_iconst (v := 1) hx hb dX8_worked_89 (by decide) ?_
              refine lv_icmp_le (tgt := 162) hx hb dX8_worked_90 (by decide) (fun h90 => ?_) (fun h90 => ?_)
              · have hg := zp hg h90
                exact B162 (g_X8_worked_4 v_X_rule_size a_X_rule_row a_X_rule_known n) ih x1 x2 a_X_rule_stack _ _ _ (lv_sub hl [1, 2, 3] rfl) hP hD hS hg
              · have hg := zn hg h90
                refine lv_iinc (k := 2) (v := x1 + (-1)) (lv' := [(1, .int (x1 + (-1))), (3, .int (a_X_rule_row (x2.toNatClampNeg))), (0, .ref q_X_rule), (2, .int x2)]) hx hb dX8_worked_93 hl rfl (zinc (by decide)) (by decide) rfl (fun ls hl => ?_)
                refine lv_aload_n hx hb dX8_worked_96 rfl (lv_at hl 2 rfl) ?_
                refine zget (C := RX8) (T := TX8) (N := 8) S hK hP 0 rfl rfl 2 (Nat.le_of_ble_eq_true rfl) zf_8 zw_108 rfl dX8_worked_97 ?_
                refine lv_iload_n hx hb dX8_worked_100 rfl (lv_at hl 0 rfl) ?_
                refine lv_iconst (v := 1) hx hb dX8_worked_101 (by decide) ?_
                refine lv_isub hx hb dX8_worked_102 ?_
                refine lv_iload_n hx hb dX8_worked_103 rfl (lv_at hl 1 rfl) ?_
                refine lv_ineg hx hb dX8_worked_104 ?_
                refine lv_aload_n hx hb dX8_worked_105 rfl (lv_at hl 2 rfl) ?_
                refine zget (C := RX8) (T := TX8) (N := 8) S hK hP 0 rfl rfl 2 (Nat.le_of_ble_eq_true rfl) zf_8 zw_108 rfl dX8_worked_106 ?_
                refine lv_iload_n hx hb dX8_worked_109 rfl (lv_at hl 0 rfl) ?_
                refine lv_iconst (v := 1) hx hb dX8_worked_110 (by decide) ?_
                refine lv_isub hx hb dX8_worked_111 ?_
                obtain ⟨h7, hg⟩ := zck hg
                refine zlald hx hb hK hP 1 1 rfl rfl (j := (((x1 + (-1)) - 1).toNatClampNeg)) h7 rfl dX8_worked_112 ?_
                refine lv_aload_n hx hb dX8_worked_113 rfl (lv_at hl 2 rfl) ?_
                refine zget (C := RX8) (T := TX8) (N := 8) S hK hP 0 rfl rfl 2 (Nat.le_of_ble_eq_true rfl) zf_8 zw_108 rfl dX8_worked_114 ?_
                refine lv_iload_n hx hb dX8_worked_117 rfl (lv_at hl 0 rfl) ?_
                obtain ⟨h8, hg⟩ := zck hg
                refine zlald hx hb hK hP 1 1 rfl rfl (j := ((x1 + (-1)).toNatClampNeg)) h8 rfl dX8_worked_118 ?_
                obtain ⟨v9, hc10, hg⟩ := zbd hg
                refine zcallS (rest := [.int ((x1 + (-1)) - 1), .ref q_X_rule_stack]) S (c_X8_joined l D cI cJ cZ cA ga (-(a_X_rule_row (x2.toNatClampNeg))) (a_X_rule_stack (((x1 + (-1)) - 1).toNatClampNeg)) (a_X_rule_stack ((x1 + (-1)).toNatClampNeg)) v9 hc10) (zgS zw_667 zw_668 zw_35 zw_669) rfl hd_X8_joined ⟨rfl, rfl⟩ ⟨Nat.le_of_ble_eq_true rfl, Nat.le_of_ble_eq_true rfl⟩ rfl hl.1 rfl (Nat.le_of_ble_eq_true rfl) dX8_worked_119 hP hD hS hA hK hG (isC := []) rfl (by decide +kernel) rfl ⟨Nat.zero_le _, Nat.zero_le _⟩ (pl := [none, none, none, none]) (nw := 4) rfl (by decide +kernel) (w2 := (ws_X8_worked cI cJ cZ cA q_X_rule q_X_rule_stack q_X_rule_row q_X_rule_known u_X_rule_state u_X_rule_place u_X_rule_fault u_X_rule_isStale v_X_rule_size a_X_rule_stack a_X_rule_row a_X_rule_known)) rfl (st1 := [.long v9, .int ((x1 + (-1)) - 1), .ref q_X_rule_stack]) rfl (fun H locs hP hD hS => ?_)
                obtain ⟨h11, hg⟩ := zck hg
                refine zlast hx hb hK hP hD hS 1 1 rfl rfl (j := (((x1 + (-1)) - 1).toNatClampNeg)) h11 rfl dX8_worked_122 (w2 := (ws_X8_worked cI cJ cZ cA q_X_rule q_X_rule_stack q_X_rule_row q_X_rule_known u_X_rule_state u_X_rule_place u_X_rule_fault u_X_rule_isStale v_X_rule_size (vp_updL a_X_rule_stack (((x1 + (-1)) - 1).toNatClampNeg) v9) a_X_rule_row a_X_rule_known)) rfl (fun H locs hP hD hS => ?_)
                refine lv_goto (tgt := 162) hx hb dX8_worked_123 (by decide) ?_
                exact B162 (g_X8_worked_4 v_X_rule_size a_X_rule_row a_X_rule_known n) ih (x1 + (-1)) x2 (vp_updL a_X_rule_stack (((x1 + (-1)) - 1).toNatClampNeg) v9) _ _ _ (lv_sub hl [2, 0, 3] rfl) hP hD hS hg
          · have hg := zp hg h28
            exact B31 (g_X8_worked_4 v_X_rule_size a_X_rule_row a_X_rule_known n) ih x1 x2 (a_X_rule_row (x2.toNatClampNeg)) a_X_rule_stack _ _ _ (lv_sub hl [1, 2, 3, 0] rfl) hP hD hS hg
  refine lv_iconst (v := 0) hx hb dX8_worked_0 (by decide) ?_
  refine lv_istore_n (lv' := [(1, .int 0), (0, .ref q_X_rule)]) hx hb dX8_worked_1 rfl hl (by decide) rfl (fun ls hl => ?_)
  refine lv_iconst (v := 0) hx hb dX8_worked_2 (by decide) ?_
  refine lv_istore_n (lv' := [(2, .int 0), (1, .int 0), (0, .ref q_X_rule)]) hx hb dX8_worked_3 rfl hl (by decide) rfl (fun ls hl => ?_)
  exact B4 zF 0 0 a_X_rule_stack _ _ _ (lv_sub hl [2, 1, 0] rfl) hP hD hS hg

/-! SpokenClock$Rule.holds(IIII)Z -/
abbrev ws_X8_holds (cI cJ cZ cA : ClassId) (q_X_rule q_X_rule_known q_X_now q_X_now_settings q_X_rule_stack q_X_rule_row : Nat) (u_X_rule_place : Value) (u_X_rule_isStale : Value) (u_X_now_people : Value) (u_X_now_talks : Value) (u_X_now_dues : Value) (u_X_now_sights : Value) (u_X_now_rule : Value) (u_X_now_stake : Value) (v_X_rule_size : Int32) (v_X_rule_fault : Int32) (a_X_rule_known : Nat → Int32) (a_X_now_settings : Nat → Int32) (a_X_rule_stack : Nat → Int64) (a_X_rule_row : Nat → Int32) : va_W := [(q_X_rule, .inr (8, [.ref q_X_now, .ref q_X_rule_row, .ref q_X_rule_stack, .ref q_X_rule_known, .int v_X_rule_size, u_X_rule_place, .int v_X_rule_fault, u_X_rule_isStale])), (q_X_rule_known, .inl (cI, 6, .inl a_X_rule_known)), (q_X_now, .inr (9, [u_X_now_people, u_X_now_talks, u_X_now_dues, u_X_now_sights, u_X_now_rule, .ref q_X_now_settings, u_X_now_stake])), (q_X_now_settings, .inl (cI, 3, .inl a_X_now_settings)), (q_X_rule_stack, .inl (cJ, 40, .inr (.inl a_X_rule_stack))), (q_X_rule_row, .inl (cI, 40, .inl a_X_rule_row))]
abbrev rm_X8_holds : Room := { frames := 2, cells := 0, slots := 0, locals := 47 }
def g_X8_holds (v_X_rule_size : Int32) (v_X_rule_fault : Int32) (a_X_now_settings : Nat → Int32) (a_X_rule_row : Nat → Int32) (x1 : Int32) (x2 : Int32) (x3 : Int32) (x4 : Int32) (a_X_rule_known : Nat → Int32) (a_X_rule_stack : Nat → Int64) : Option (Int32 × (Nat → Int32) × (Nat → Int64)) :=
  if v_X_rule_fault = (-1) then (
    (g_X8_worked v_X_rule_size a_X_rule_row (upd (upd (upd (upd (upd (upd a_X_rule_known 0 x3) 1 x2) 2 x4) 3 x1) 4 (a_X_now_settings 2)) 5 (a_X_now_settings 0)) a_X_rule_stack).bind fun v1 =>
    if (lg_cmp v1.1 (0 : Int64)) = 0 then (
      some (0, upd (upd (upd (upd (upd (upd a_X_rule_known 0 x3) 1 x2) 2 x4) 3 x1) 4 (a_X_now_settings 2)) 5 (a_X_now_settings 0), v1.2)
    ) else (
      some (1, upd (upd (upd (upd (upd (upd a_X_rule_known 0 x3) 1 x2) 2 x4) 3 x1) 4 (a_X_now_settings 2)) 5 (a_X_now_settings 0), v1.2)
    )
  ) else (
    some (0, a_X_rule_known, a_X_rule_stack)
  )
theorem hd_X8_holds : yX8_holds.cls = RX8 ∧ yX8_holds.cls ≠ "java/lang/invoke/MethodHandle" ∧ yX8_holds.cls ≠ "java/lang/invoke/VarHandle" ∧ (parseMethodDescriptor yX8_holds.desc).map (fun d => d.parameters.length) = some 4 := by decide +kernel
set_option maxHeartbeats 4000000 in
set_option maxRecDepth 100000 in
theorem c_X8_holds (l : Launch) (D : va_G) (cI cJ cZ cA : ClassId) (ga : Nat → Nat) (q_X_rule q_X_rule_known q_X_now q_X_now_settings q_X_rule_stack q_X_rule_row : Nat) (u_X_rule_place : Value) (u_X_rule_isStale : Value) (u_X_now_people : Value) (u_X_now_talks : Value) (u_X_now_dues : Value) (u_X_now_sights : Value) (u_X_now_rule : Value) (u_X_now_stake : Value) (v_X_rule_size : Int32) (v_X_rule_fault : Int32) (a_X_rule_known : Nat → Int32) (a_X_now_settings : Nat → Int32) (a_X_rule_stack : Nat → Int64) (a_X_rule_row : Nat → Int32) (x1 : Int32) (x2 : Int32) (x3 : Int32) (x4 : Int32) (o : Int32 × (Nat → Int32) × (Nat → Int64)) (hg : g_X8_holds v_X_rule_size v_X_rule_fault a_X_now_settings a_X_rule_row x1 x2 x3 x4 a_X_rule_known a_X_rule_stack = some o) : zM l yX8_holds (Cond.code yX8_holds cX8_holds 5 (some .boolean) :: wsL_law) rm_X8_holds D (zTy cI cJ cZ cA) ga [.ref q_X_rule, .int x1, .int x2, .int x3, .int x4] (ws_X8_holds cI cJ cZ cA q_X_rule q_X_rule_known q_X_now q_X_now_settings q_X_rule_stack q_X_rule_row u_X_rule_place u_X_rule_isStale u_X_now_people u_X_now_talks u_X_now_dues u_X_now_sights u_X_now_rule u_X_now_stake v_X_rule_size v_X_rule_fault a_X_rule_known a_X_now_settings a_X_rule_stack a_X_rule_row) (ws_X8_holds cI cJ cZ cA q_X_rule q_X_rule_known q_X_now q_X_now_settings q_X_rule_stack q_X_rule_row u_X_rule_place u_X_rule_isStale u_X_now_people u_X_now_talks u_X_now_dues u_X_now_sights u_X_now_rule u_X_now_stake v_X_rule_size v_X_rule_fault o.2.1 a_X_now_settings o.2.2 a_X_rule_row) (some (.int o.1)) := by
  refine zenterN (own := RX8) (by decide) rfl rfl (Nat.le_of_ble_eq_true rfl) ?_
  intro p e s m args below meth c A ls Q S hA hK hG hl hP hD hS hret0
  have hx := S.1
  have hb := S.2.1
  have ht : ∀ w, w ∈ wsL_law → w.before args s = true := fun w h => S.2.2.2.2 w (List.mem_cons_of_mem _ h)
  have hret : ∀ (r9 : Int32) (a_X_rule_known : Nat → Int32) (a_X_rule_stack : Nat → Int64), (some (r9, a_X_rule_known, a_X_rule_stack) : Option (Int32 × (Nat → Int32) × (Nat → Int64))) = some o → narrow .boolean (.int r9) = .int r9 → ∀ (H : Heap) (locs : List Loc) (pc : Nat) (ls : Array Slot), va_P D vwCl (ws_X8_holds cI cJ cZ cA q_X_rule q_X_rule_known q_X_now q_X_now_settings q_X_rule_stack q_X_rule_row u_X_rule_place u_X_rule_isStale u_X_now_people u_X_now_talks u_X_now_dues u_X_now_sights u_X_now_rule u_X_now_stake v_X_rule_size v_X_rule_fault a_X_rule_known a_X_now_settings a_X_rule_stack a_X_rule_row) H → va_S A s.heap H locs → decode cX8_holds pc = .ok (.ireturn, 1) → W p l e rm_X8_holds s m args below meth c H locs 0 0 Q (F0 m pc ls [.int r9]) := by
    intro r9 a_X_rule_known a_X_rule_stack he; cases he; exact hret0
  have hl : lv_has ls 5 [(0, .ref q_X_rule), (1, .int x1), (2, .int x2), (3, .int x3), (4, .int x4)] := hl
  refine lv_aload_n hx hb dX8_holds_0 rfl (lv_at hl 0 rfl) ?_
  refine zget (C := RX8) (T := TX8) (N := 8) S hK hP 0 rfl rfl 6 (Nat.le_of_ble_eq_true rfl) zf_8 zw_539 rfl dX8_holds_1 ?_
  refine lv_iconst (v := (-1)) hx hb dX8_holds_4 (by decide) ?_
  refine lv_icmp_eq (tgt := 10) hx hb dX8_holds_5 (by decide) (fun h5 => ?_) (fun h5 => ?_)
  · have hg := zp hg h5
    refine lv_aload_n hx hb dX8_holds_10 rfl (lv_at hl 0 rfl) ?_
    refine zget (C := RX8) (T := TX8) (N := 8) S hK hP 0 rfl rfl 3 (Nat.le_of_ble_eq_true rfl) zf_8 zw_109 rfl dX8_holds_11 ?_
    refine lv_iconst (v := 0) hx hb dX8_holds_14 (by decide) ?_
    refine lv_iload_n hx hb dX8_holds_15 rfl (lv_at hl 3 rfl) ?_
    refine ziast hx hb hK hP hD hS 1 0 rfl rfl (j := 0) (zin (by decide)) (by decide) dX8_holds_16 (w2 := (ws_X8_holds cI cJ cZ cA q_X_rule q_X_rule_known q_X_now q_X_now_settings q_X_rule_stack q_X_rule_row u_X_rule_place u_X_rule_isStale u_X_now_people u_X_now_talks u_X_now_dues u_X_now_sights u_X_now_rule u_X_now_stake v_X_rule_size v_X_rule_fault (upd a_X_rule_known 0 x3) a_X_now_settings a_X_rule_stack a_X_rule_row)) rfl (fun H locs hP hD hS => ?_)
    refine lv_aload_n hx hb dX8_holds_17 rfl (lv_at hl 0 rfl) ?_
    refine zget (C := RX8) (T := TX8) (N := 8) S hK hP 0 rfl rfl 3 (Nat.le_of_ble_eq_true rfl) zf_8 zw_109 rfl dX8_holds_18 ?_
    refine lv_iconst (v := 1) hx hb dX8_holds_21 (by decide) ?_
    refine lv_iload_n hx hb dX8_holds_22 rfl (lv_at hl 2 rfl) ?_
    refine ziast hx hb hK hP hD hS 1 0 rfl rfl (j := 1) (zin (by decide)) (by decide) dX8_holds_23 (w2 := (ws_X8_holds cI cJ cZ cA q_X_rule q_X_rule_known q_X_now q_X_now_settings q_X_rule_stack q_X_rule_row u_X_rule_place u_X_rule_isStale u_X_now_people u_X_now_talks u_X_now_dues u_X_now_sights u_X_now_rule u_X_now_stake v_X_rule_size v_X_rule_fault (upd (upd a_X_rule_known 0 x3) 1 x2) a_X_now_settings a_X_rule_stack a_X_rule_row)) rfl (fun H locs hP hD hS => ?_)
    refine lv_aload_n hx hb dX8_holds_24 rfl (lv_at hl 0 rfl) ?_
    refine zget (C := RX8) (T := TX8) (N := 8) S hK hP 0 rfl rfl 3 (Nat.le_of_ble_eq_true rfl) zf_8 zw_109 rfl dX8_holds_25 ?_
    refine lv_iconst (v := 2) hx hb dX8_holds_28 (by decide) ?_
    refine lv_iload hx hb dX8_holds_29 (lv_at hl 4 rfl) ?_
    refine ziast hx hb hK hP hD hS 1 0 rfl rfl (j := 2) (zin (by decide)) (by decide) dX8_holds_31 (w2 := (ws_X8_holds cI cJ cZ cA q_X_rule q_X_rule_known q_X_now q_X_now_settings q_X_rule_stack q_X_rule_row u_X_rule_place u_X_rule_isStale u_X_now_people u_X_now_talks u_X_now_dues u_X_now_sights u_X_now_rule u_X_now_stake v_X_rule_size v_X_rule_fault (upd (upd (upd a_X_rule_known 0 x3) 1 x2) 2 x4) a_X_now_settings a_X_rule_stack a_X_rule_row)) rfl (fun H locs hP hD hS => ?_)
    refine lv_aload_n hx hb dX8_holds_32 rfl (lv_at hl 0 rfl) ?_
    refine zget (C := RX8) (T := TX8) (N := 8) S hK hP 0 rfl rfl 3 (Nat.le_of_ble_eq_true rfl) zf_8 zw_109 rfl dX8_holds_33 ?_
    refine lv_iconst (v := 3) hx hb dX8_holds_36 (by decide) ?_
    refine lv_iload_n hx hb dX8_holds_37 rfl (lv_at hl 1 rfl) ?_
    refine ziast hx hb hK hP hD hS 1 0 rfl rfl (j := 3) (zin (by decide)) (by decide) dX8_holds_38 (w2 := (ws_X8_holds cI cJ cZ cA q_X_rule q_X_rule_known q_X_now q_X_now_settings q_X_rule_stack q_X_rule_row u_X_rule_place u_X_rule_isStale u_X_now_people u_X_now_talks u_X_now_dues u_X_now_sights u_X_now_rule u_X_now_stake v_X_rule_size v_X_rule_fault (upd (upd (upd (upd a_X_rule_known 0 x3) 1 x2) 2 x4) 3 x1) a_X_now_settings a_X_rule_stack a_X_rule_row)) rfl (fun H locs hP hD hS => ?_)
    refine lv_aload_n hx hb dX8_holds_39 rfl (lv_at hl 0 rfl) ?_
    refine zget (C := RX8) (T := TX8) (N := 8) S hK hP 0 rfl rfl 3 (Nat.le_of_ble_eq_true rfl) zf_8 zw_109 rfl dX8_holds_40 ?_
    refine lv_iconst (v := 4) hx hb dX8_holds_43 (by decide) ?_
    refine lv_aload_n hx hb dX8_holds_44 rfl (lv_at hl 0 rfl) ?_
    refine zget (C := RX8) (T := TX8) (N := 8) S hK hP 0 rfl rfl 0 (Nat.le_of_ble_eq_true rfl) zf_8 zw_111 rfl dX8_holds_45 ?_
    refine zget (C := RX9) (T := TX9) (N := 7) S hK hP 2 rfl rfl 5 (Nat.le_of_ble_eq_true rfl) zf_9 zw_662 rfl dX8_holds_48 ?_
    refine lv_iconst (v := 2) hx hb dX8_holds_51 (by decide) ?_
    refine ziald hx hb hK hP 3 0 rfl rfl (j := 2) (zin (by decide)) (by decide) dX8_holds_52 ?_
    refine ziast hx hb hK hP hD hS 1 0 rfl rfl (j := 4) (zin (by decide)) (by decide) dX8_holds_53 (w2 := (ws_X8_holds cI cJ cZ cA q_X_rule q_X_rule_known q_X_now q_X_now_settings q_X_rule_stack q_X_rule_row u_X_rule_place u_X_rule_isStale u_X_now_people u_X_now_talks u_X_now_dues u_X_now_sights u_X_now_rule u_X_now_stake v_X_rule_size v_X_rule_fault (upd (upd (upd (upd (upd a_X_rule_known 0 x3) 1 x2) 2 x4) 3 x1) 4 (a_X_now_settings 2)) a_X_now_settings a_X_rule_stack a_X_rule_row)) rfl (fun H locs hP hD hS => ?_)
    refine lv_aload_n hx hb dX8_holds_54 rfl (lv_at hl 0 rfl) ?_
    refine zget (C := RX8) (T := TX8) (N := 8) S hK hP 0 rfl rfl 3 (Nat.le_of_ble_eq_true rfl) zf_8 zw_109 rfl dX8_holds_55 ?_
    refine lv_iconst (v := 5) hx hb dX8_holds_58 (by decide) ?_
    refine lv_aload_n hx hb dX8_holds_59 rfl (lv_at hl 0 rfl) ?_
    refine zget (C := RX8) (T := TX8) (N := 8) S hK hP 0 rfl rfl 0 (Nat.le_of_ble_eq_true rfl) zf_8 zw_111 rfl dX8_holds_60 ?_
    refine zget (C := RX9) (T := TX9) (N := 7) S hK hP 2 rfl rfl 5 (Nat.le_of_ble_eq_true rfl) zf_9 zw_662 rfl dX8_holds_63 ?_
    refine lv_iconst (v := 0) hx hb dX8_holds_66 (by decide) ?_
    refine ziald hx hb hK hP 3 0 rfl rfl (j := 0) (zin (by decide)) (by decide) dX8_holds_67 ?_
    refine ziast hx hb hK hP hD hS 1 0 rfl rfl (j := 5) (zin (by decide)) (by decide) dX8_holds_68 (w2 := (ws_X8_holds cI cJ cZ cA q_X_rule q_X_rule_known q_X_now q_X_now_settings q_X_rule_stack q_X_rule_row u_X_rule_place u_X_rule_isStale u_X_now_people u_X_now_talks u_X_now_dues u_X_now_sights u_X_now_rule u_X_now_stake v_X_rule_size v_X_rule_fault (upd (upd (upd (upd (upd (upd a_X_rule_known 0 x3) 1 x2) 2 x4) 3 x1) 4 (a_X_now_settings 2)) 5 (a_X_now_settings 0)) a_X_now_settings a_X_rule_stack a_X_rule_row)) rfl (fun H locs hP hD hS => ?_)
    refine lv_aload_n hx hb dX8_holds_69 rfl (lv_at hl 0 rfl) ?_
    obtain ⟨v1, hc2, hg⟩ := zbd hg
    refine zcallV (rest := []) S (c_X8_worked l D cI cJ cZ cA ga q_X_rule q_X_rule_stack q_X_rule_row q_X_rule_known (.ref q_X_now) u_X_rule_place (.int v_X_rule_fault) u_X_rule_isStale v_X_rule_size a_X_rule_stack a_X_rule_row (upd (upd (upd (upd (upd (upd a_X_rule_known 0 x3) 1 x2) 2 x4) 3 x1) 4 (a_X_now_settings 2)) 5 (a_X_now_settings 0)) v1 hc2) (zgV zw_663 zw_664 zw_665 zw_35 zw_666) rfl hd_X8_worked ⟨rfl, rfl⟩ ⟨Nat.le_of_ble_eq_true rfl, Nat.le_of_ble_eq_true rfl⟩ 0 8 rfl rfl rfl hl.1 rfl (Nat.le_of_ble_eq_true rfl) dX8_holds_70 hP hD hS hA hK hG (isC := [0, 4, 5, 1]) rfl (by decide +kernel) rfl ⟨Nat.zero_le _, Nat.zero_le _⟩ (pl := [some 0, some 3, none, none, some 1, some 2]) (nw := 6) rfl (by decide +kernel) (w2 := (ws_X8_holds cI cJ cZ cA q_X_rule q_X_rule_known q_X_now q_X_now_settings q_X_rule_stack q_X_rule_row u_X_rule_place u_X_rule_isStale u_X_now_people u_X_now_talks u_X_now_dues u_X_now_sights u_X_now_rule u_X_now_stake v_X_rule_size v_X_rule_fault (upd (upd (upd (upd (upd (upd a_X_rule_known 0 x3) 1 x2) 2 x4) 3 x1) 4 (a_X_now_settings 2)) 5 (a_X_now_settings 0)) a_X_now_settings v1.2 a_X_rule_row)) rfl (st1 := [.long v1.1]) rfl (fun H locs hP hD hS => ?_)
    refine lv_lconst (v := 0) hx hb dX8_holds_73 (by decide) ?_
    refine W.lcmp hx hb dX8_holds_74 ?_
    refine lv_if_eq (tgt := 82) hx hb dX8_holds_75 (by decide) (fun h75 => ?_) (fun h75 => ?_)
    · have hg := zp hg h75
      refine lv_iconst (v := 0) hx hb dX8_holds_82 (by decide) ?_
      exact hret 0 (upd (upd (upd (upd (upd (upd a_X_rule_known 0 x3) 1 x2) 2 x4) 3 x1) 4 (a_X_now_settings 2)) 5 (a_X_now_settings 0)) v1.2 hg (zb01 (Or.inl rfl)) _ _ _ _ hP hS dX8_holds_83
    · have hg := zn hg h75
      refine lv_iconst (v := 1) hx hb dX8_holds_78 (by decide) ?_
      refine lv_goto (tgt := 83) hx hb dX8_holds_79 (by decide) ?_
      exact hret 1 (upd (upd (upd (upd (upd (upd a_X_rule_known 0 x3) 1 x2) 2 x4) 3 x1) 4 (a_X_now_settings 2)) 5 (a_X_now_settings 0)) v1.2 hg (zb01 (Or.inr rfl)) _ _ _ _ hP hS dX8_holds_83
  · have hg := zn hg h5
    refine lv_iconst (v := 0) hx hb dX8_holds_8 (by decide) ?_
    exact hret 0 a_X_rule_known a_X_rule_stack hg (zb01 (Or.inl rfl)) _ _ _ _ hP hS dX8_holds_9

/-! SpokenClock$Day.voiceOf(IIII)I -/
abbrev ws_X1_voiceOf (cI cJ cZ cA : ClassId) (q_X_day q_X_now q_X_now_settings q_X_now_people q_X_now_people_cells q_X_rule q_X_rule_known q_X_rule_stack q_X_rule_row : Nat) (u_X_day_talkers : Value) (u_X_day_clocks : Value) (u_X_day_isStale : Value) (u_X_now_talks : Value) (u_X_now_dues : Value) (u_X_now_sights : Value) (u_X_now_rule : Value) (u_X_now_stake : Value) (u_X_now_people_limit : Value) (u_X_rule_place : Value) (u_X_rule_isStale : Value) (N_X_now_people_cells : Nat) (a_X_now_settings : Nat → Int32) (v_X_now_people_width : Int32) (v_X_now_people_size : Int32) (a_X_now_people_cells : Nat → Int32) (v_X_rule_size : Int32) (v_X_rule_fault : Int32) (a_X_rule_known : Nat → Int32) (a_X_rule_stack : Nat → Int64) (a_X_rule_row : Nat → Int32) : va_W := [(q_X_day, .inr (1, [.ref q_X_now, .ref q_X_rule, u_X_day_talkers, u_X_day_clocks, u_X_day_isStale])), (q_X_now, .inr (9, [.ref q_X_now_people, u_X_now_talks, u_X_now_dues, u_X_now_sights, u_X_now_rule, .ref q_X_now_settings, u_X_now_stake])), (q_X_now_settings, .inl (cI, 3, .inl a_X_now_settings)), (q_X_now_people, .inr (7, [.int v_X_now_people_width, u_X_now_people_limit, .ref q_X_now_people_cells, .int v_X_now_people_size])), (q_X_now_people_cells, .inl (cI, N_X_now_people_cells, .inl a_X_now_people_cells)), (q_X_rule, .inr (8, [.ref q_X_now, .ref q_X_rule_row, .ref q_X_rule_stack, .ref q_X_rule_known, .int v_X_rule_size, u_X_rule_place, .int v_X_rule_fault, u_X_rule_isStale])), (q_X_rule_known, .inl (cI, 6, .inl a_X_rule_known)), (q_X_rule_stack, .inl (cJ, 40, .inr (.inl a_X_rule_stack))), (q_X_rule_row, .inl (cI, 40, .inl a_X_rule_row))]
abbrev rm_X1_voiceOf : Room := { frames := 3, cells := 0, slots := 0, locals := 71 }
def g_X1_voiceOf (N_X_now_people_cells : Nat) (a_X_now_settings : Nat → Int32) (v_X_now_people_width : Int32) (v_X_now_people_size : Int32) (a_X_now_people_cells : Nat → Int32) (v_X_rule_size : Int32) (v_X_rule_fault : Int32) (a_X_rule_row : Nat → Int32) (x1 : Int32) (x2 : Int32) (x3 : Int32) (x4 : Int32) (a_X_rule_known : Nat → Int32) (a_X_rule_stack : Nat → Int64) : Option (Int32 × (Nat → Int32) × (Nat → Int64)) :=
  (g_X7_at N_X_now_people_cells v_X_now_people_width v_X_now_people_size a_X_now_people_cells x1 0).bind fun v1 =>
  if v1 = 0 then (
    some (1, a_X_rule_known, a_X_rule_stack)
  ) else
  if v1 = 1 then (
    some (2, a_X_rule_known, a_X_rule_stack)
  ) else
  if v1 = 2 then (
    some (a_X_now_settings 1, a_X_rule_known, a_X_rule_stack)
  ) else
  if v1 = 3 then (
    if (x2 - x2 / 3 * 3) = 0 then (
      some (1, a_X_rule_known, a_X_rule_stack)
    ) else (
      some (0, a_X_rule_known, a_X_rule_stack)
    )
  ) else
  if v1 = 4 then (
    if (a_X_now_settings 1) = 0 then (
      some (0, a_X_rule_known, a_X_rule_stack)
    ) else (
      (g_X8_holds v_X_rule_size v_X_rule_fault a_X_now_settings a_X_rule_row x1 x2 x3 x4 a_X_rule_known a_X_rule_stack).bind fun v3 =>
      if v3.1 = 0 then (
        some (0, v3.2.1, v3.2.2)
      ) else (
        some (a_X_now_settings 1, v3.2.1, v3.2.2)
      )
    )
  ) else
  if v1 = 5 then (
    if (a_X_now_settings 2) ≤ x3 then (
      some (0, a_X_rule_known, a_X_rule_stack)
    ) else (
      some (1, a_X_rule_known, a_X_rule_stack)
    )
  ) else
  (
    some (0, a_X_rule_known, a_X_rule_stack)
  )
theorem hd_X1_voiceOf : yX1_voiceOf.cls = RX1 ∧ yX1_voiceOf.cls ≠ "java/lang/invoke/MethodHandle" ∧ yX1_voiceOf.cls ≠ "java/lang/invoke/VarHandle" ∧ (parseMethodDescriptor yX1_voiceOf.desc).map (fun d => d.parameters.length) = some 4 := by decide +kernel
set_option maxHeartbeats 4000000 in
set_option maxRecDepth 100000 in
theorem c_X1_voiceOf (l : Launch) (D : va_G) (cI cJ cZ cA : ClassId) (ga : Nat → Nat) (q_X_day q_X_now q_X_now_settings q_X_now_people q_X_now_people_cells q_X_rule q_X_rule_known q_X_rule_stack q_X_rule_row : Nat) (u_X_day_talkers : Value) (u_X_day_clocks : Value) (u_X_day_isStale : Value) (u_X_now_talks : Value) (u_X_now_dues : Value) (u_X_now_sights : Value) (u_X_now_rule : Value) (u_X_now_stake : Value) (u_X_now_people_limit : Value) (u_X_rule_place : Value) (u_X_rule_isStale : Value) (N_X_now_people_cells : Nat) (a_X_now_settings : Nat → Int32) (v_X_now_people_width : Int32) (v_X_now_people_size : Int32) (a_X_now_people_cells : Nat → Int32) (v_X_rule_size : Int32) (v_X_rule_fault : Int32) (a_X_rule_known : Nat → Int32) (a_X_rule_stack : Nat → Int64) (a_X_rule_row : Nat → Int32) (x1 : Int32) (x2 : Int32) (x3 : Int32) (x4 : Int32) (o : Int32 × (Nat → Int32) × (Nat → Int64)) (hg : g_X1_voiceOf N_X_now_people_cells a_X_now_settings v_X_now_people_width v_X_now_people_size a_X_now_people_cells v_X_rule_size v_X_rule_fault a_X_rule_row x1 x2 x3 x4 a_X_rule_known a_X_rule_stack = some o) : zM l yX1_voiceOf (Cond.code yX1_voiceOf cX1_voiceOf 6 (some .int) :: wsL_law) rm_X1_voiceOf D (zTy cI cJ cZ cA) ga [.ref q_X_day, .int x1, .int x2, .int x3, .int x4] (ws_X1_voiceOf cI cJ cZ cA q_X_day q_X_now q_X_now_settings q_X_now_people q_X_now_people_cells q_X_rule q_X_rule_known q_X_rule_stack q_X_rule_row u_X_day_talkers u_X_day_clocks u_X_day_isStale u_X_now_talks u_X_now_dues u_X_now_sights u_X_now_rule u_X_now_stake u_X_now_people_limit u_X_rule_place u_X_rule_isStale N_X_now_people_cells a_X_now_settings v_X_now_people_width v_X_now_people_size a_X_now_people_cells v_X_rule_size v_X_rule_fault a_X_rule_known a_X_rule_stack a_X_rule_row) (ws_X1_voiceOf cI cJ cZ cA q_X_day q_X_now q_X_now_settings q_X_now_people q_X_now_people_cells q_X_rule q_X_rule_known q_X_rule_stack q_X_rule_row u_X_day_talkers u_X_day_clocks u_X_day_isStale u_X_now_talks u_X_now_dues u_X_now_sights u_X_now_rule u_X_now_stake u_X_now_people_limit u_X_rule_place u_X_rule_isStale N_X_now_people_cells a_X_now_settings v_X_now_people_width v_X_now_people_size a_X_now_people_cells v_X_rule_size v_X_rule_fault o.2.1 o.2.2 a_X_rule_row) (some (.int o.1)) := by
  refine zenterI (own := RX1) (by decide) rfl rfl (Nat.le_of_ble_eq_true rfl) ?_
  intro p e s m args below meth c A ls Q S hA hK hG hl hP hD hS hret0
  have hx := S.1
  have hb := S.2.1
  have ht : ∀ w, w ∈ wsL_law → w.before args s = true := fun w h => S.2.2.2.2 w (List.mem_cons_of_mem _ h)
  have hret : ∀ (r9 : Int32) (a_X_rule_known : Nat → Int32) (a_X_rule_stack : Nat → Int64), (some (r9, a_X_rule_known, a_X_rule_stack) : Option (Int32 × (Nat → Int32) × (Nat → Int64))) = some o → ∀ (H : Heap) (locs : List Loc) (pc : Nat) (ls : Array Slot), va_P D vwCl (ws_X1_voiceOf cI cJ cZ cA q_X_day q_X_now q_X_now_settings q_X_now_people q_X_now_people_cells q_X_rule q_X_rule_known q_X_rule_stack q_X_rule_row u_X_day_talkers u_X_day_clocks u_X_day_isStale u_X_now_talks u_X_now_dues u_X_now_sights u_X_now_rule u_X_now_stake u_X_now_people_limit u_X_rule_place u_X_rule_isStale N_X_now_people_cells a_X_now_settings v_X_now_people_width v_X_now_people_size a_X_now_people_cells v_X_rule_size v_X_rule_fault a_X_rule_known a_X_rule_stack a_X_rule_row) H → va_S A s.heap H locs → decode cX1_voiceOf pc = .ok (.ireturn, 1) → W p l e rm_X1_voiceOf s m args below meth c H locs 0 0 Q (F0 m pc ls [.int r9]) := by
    intro r9 a_X_rule_known a_X_rule_stack he; cases he; exact hret0
  have hl : lv_has ls 6 [(0, .ref q_X_day), (1, .int x1), (2, .int x2), (3, .int x3), (4, .int x4)] := hl
  refine lv_aload_n hx hb dX1_voiceOf_0 rfl (lv_at hl 0 rfl) ?_
  refine zget (C := RX1) (T := TX1) (N := 5) S hK hP 0 rfl rfl 0 (Nat.le_of_ble_eq_true rfl) zf_1 zw_120 rfl dX1_voiceOf_1 ?_
  refine zget (C := RX9) (T := TX9) (N := 7) S hK hP 1 rfl rfl 5 (Nat.le_of_ble_eq_true rfl) zf_9 zw_632 rfl dX1_voiceOf_4 ?_
  refine lv_iconst (v := 1) hx hb dX1_voiceOf_7 (by decide) ?_
  refine ziald hx hb hK hP 2 0 rfl rfl (j := 1) (zin (by decide)) (by decide) dX1_voiceOf_8 ?_
  refine lv_istore (lv' := [(5, .int (a_X_now_settings 1)), (0, .ref q_X_day), (1, .int x1), (2, .int x2), (3, .int x3), (4, .int x4)]) hx hb dX1_voiceOf_9 hl (by decide) rfl (fun ls hl => ?_)
  refine lv_aload_n hx hb dX1_voiceOf_11 rfl (lv_at hl 1 rfl) ?_
  refine zget (C := RX1) (T := TX1) (N := 5) S hK hP 0 rfl rfl 0 (Nat.le_of_ble_eq_true rfl) zf_1 zw_120 rfl dX1_voiceOf_12 ?_
  refine zget (C := RX9) (T := TX9) (N := 7) S hK hP 1 rfl rfl 0 (Nat.le_of_ble_eq_true rfl) zf_9 zw_631 rfl dX1_voiceOf_15 ?_
  refine lv_iload_n hx hb dX1_voiceOf_18 rfl (lv_at hl 2 rfl) ?_
  refine lv_iconst (v := 0) hx hb dX1_voiceOf_19 (by decide) ?_
  obtain ⟨v1, hc2, hg⟩ := zbd hg
  refine zcallV (rest := []) S (c_X7_at l D cI cJ cZ cA ga q_X_now_people q_X_now_people_cells u_X_now_people_limit N_X_now_people_cells v_X_now_people_width v_X_now_people_size a_X_now_people_cells x1 0 v1 hc2) (zgV zw_645 zw_353 zw_354 zw_32 zw_355) rfl hd_X7_at ⟨rfl, rfl⟩ ⟨Nat.le_of_ble_eq_true rfl, Nat.le_of_ble_eq_true rfl⟩ 3 7 rfl rfl rfl hl.1 rfl (Nat.le_of_ble_eq_true rfl) dX1_voiceOf_20 hP hD hS hA hK hG (isC := [3, 4]) rfl (by decide +kernel) rfl ⟨Nat.zero_le _, Nat.zero_le _⟩ (pl := [none, none, none, some 0, some 1, none, none, none, none]) (nw := 9) rfl (by decide +kernel) (w2 := (ws_X1_voiceOf cI cJ cZ cA q_X_day q_X_now q_X_now_settings q_X_now_people q_X_now_people_cells q_X_rule q_X_rule_known q_X_rule_stack q_X_rule_row u_X_day_talkers u_X_day_clocks u_X_day_isStale u_X_now_talks u_X_now_dues u_X_now_sights u_X_now_rule u_X_now_stake u_X_now_people_limit u_X_rule_place u_X_rule_isStale N_X_now_people_cells a_X_now_settings v_X_now_people_width v_X_now_people_size a_X_now_people_cells v_X_rule_size v_X_rule_fault a_X_rule_known a_X_rule_stack a_X_rule_row)) rfl (st1 := [.int v1]) rfl (fun H locs hP hD hS => ?_)
  by_cases h23_0 : v1 = 0
  · have hg := zp hg h23_0
    refine lv_tableIn (tgt := 60) hx hb dX1_voiceOf_23 (by rw [h23_0]; decide) (by rw [h23_0]; decide) (by rw [h23_0]; rfl) (by decide) ?_
    refine lv_iconst (v := 1) hx hb dX1_voiceOf_60 (by decide) ?_
    exact hret 1 a_X_rule_known a_X_rule_stack hg _ _ _ _ hP hS dX1_voiceOf_61
  · have hg := zn hg h23_0
    by_cases h23_1 : v1 = 1
    · have hg := zp hg h23_1
      refine lv_tableIn (tgt := 62) hx hb dX1_voiceOf_23 (by rw [h23_1]; decide) (by rw [h23_1]; decide) (by rw [h23_1]; rfl) (by decide) ?_
      refine lv_iconst (v := 2) hx hb dX1_voiceOf_62 (by decide) ?_
      exact hret 2 a_X_rule_known a_X_rule_stack hg _ _ _ _ hP hS dX1_voiceOf_63
    · have hg := zn hg h23_1
      by_cases h23_2 : v1 = 2
      · have hg := zp hg h23_2
        refine lv_tableIn (tgt := 64) hx hb dX1_voiceOf_23 (by rw [h23_2]; decide) (by rw [h23_2]; decide) (by rw [h23_2]; rfl) (by decide) ?_
        refine lv_iload hx hb dX1_voiceOf_64 (lv_at hl 0 rfl) ?_
        exact hret (a_X_now_settings 1) a_X_rule_known a_X_rule_stack hg _ _ _ _ hP hS dX1_voiceOf_66
      · have hg := zn hg h23_2
        by_cases h23_3 : v1 = 3
        · have hg := zp hg h23_3
          refine lv_tableIn (tgt := 67) hx hb dX1_voiceOf_23 (by rw [h23_3]; decide) (by rw [h23_3]; decide) (by rw [h23_3]; rfl) (by decide) ?_
          refine lv_iload_n hx hb dX1_voiceOf_67 rfl (lv_at hl 3 rfl) ?_
          refine lv_iconst (v := 3) hx hb dX1_voiceOf_68 (by decide) ?_
          refine lv_irem hx hb dX1_voiceOf_69 (by decide) ?_
          refine lv_if_ne (tgt := 77) hx hb dX1_voiceOf_70 (by decide) (fun h70 => ?_) (fun h70 => ?_)
          · have hg := zn hg h70
            refine lv_iconst (v := 0) hx hb dX1_voiceOf_77 (by decide) ?_
            exact hret 0 a_X_rule_known a_X_rule_stack hg _ _ _ _ hP hS dX1_voiceOf_78
          · have hg := zp hg h70
            refine lv_iconst (v := 1) hx hb dX1_voiceOf_73 (by decide) ?_
            refine lv_goto (tgt := 78) hx hb dX1_voiceOf_74 (by decide) ?_
            exact hret 1 a_X_rule_known a_X_rule_stack hg _ _ _ _ hP hS dX1_voiceOf_78
        · have hg := zn hg h23_3
          by_cases h23_4 : v1 = 4
          · have hg := zp hg h23_4
            refine lv_tableIn (tgt := 79) hx hb dX1_voiceOf_23 (by rw [h23_4]; decide) (by rw [h23_4]; decide) (by rw [h23_4]; rfl) (by decide) ?_
            refine lv_iload hx hb dX1_voiceOf_79 (lv_at hl 0 rfl) ?_
            refine lv_if_eq (tgt := 104) hx hb dX1_voiceOf_81 (by decide) (fun h81 => ?_) (fun h81 => ?_)
            · have hg := zp hg h81
              refine lv_iconst (v := 0) hx hb dX1_voiceOf_104 (by decide) ?_
              exact hret 0 a_X_rule_known a_X_rule_stack hg _ _ _ _ hP hS dX1_voiceOf_105
            · have hg := zn hg h81
              refine lv_aload_n hx hb dX1_voiceOf_84 rfl (lv_at hl 1 rfl) ?_
              refine zget (C := RX1) (T := TX1) (N := 5) S hK hP 0 rfl rfl 1 (Nat.le_of_ble_eq_true rfl) zf_1 zw_121 rfl dX1_voiceOf_85 ?_
              refine lv_iload_n hx hb dX1_voiceOf_88 rfl (lv_at hl 2 rfl) ?_
              refine lv_iload_n hx hb dX1_voiceOf_89 rfl (lv_at hl 3 rfl) ?_
              refine lv_iload_n hx hb dX1_voiceOf_90 rfl (lv_at hl 4 rfl) ?_
              refine lv_iload hx hb dX1_voiceOf_91 (lv_at hl 5 rfl) ?_
              obtain ⟨v3, hc4, hg⟩ := zbd hg
              refine zcallV (rest := []) S (c_X8_holds l D cI cJ cZ cA ga q_X_rule q_X_rule_known q_X_now q_X_now_settings q_X_rule_stack q_X_rule_row u_X_rule_place u_X_rule_isStale (.ref q_X_now_people) u_X_now_talks u_X_now_dues u_X_now_sights u_X_now_rule u_X_now_stake v_X_rule_size v_X_rule_fault a_X_rule_known a_X_now_settings a_X_rule_stack a_X_rule_row x1 x2 x3 x4 v3 hc4) (zgV zw_658 zw_659 zw_660 zw_35 zw_661) rfl hd_X8_holds ⟨rfl, rfl⟩ ⟨Nat.le_of_ble_eq_true rfl, Nat.le_of_ble_eq_true rfl⟩ 5 8 rfl rfl rfl hl.1 rfl (Nat.le_of_ble_eq_true rfl) dX1_voiceOf_93 hP hD hS hA hK hG (isC := [5, 6, 1, 2, 7, 8]) rfl (by decide +kernel) rfl ⟨Nat.zero_le _, Nat.zero_le _⟩ (pl := [none, some 2, some 3, none, none, some 0, some 1, some 4, some 5]) (nw := 9) rfl (by decide +kernel) (w2 := (ws_X1_voiceOf cI cJ cZ cA q_X_day q_X_now q_X_now_settings q_X_now_people q_X_now_people_cells q_X_rule q_X_rule_known q_X_rule_stack q_X_rule_row u_X_day_talkers u_X_day_clocks u_X_day_isStale u_X_now_talks u_X_now_dues u_X_now_sights u_X_now_rule u_X_now_stake u_X_now_people_limit u_X_rule_place u_X_rule_isStale N_X_now_people_cells a_X_now_settings v_X_now_people_width v_X_now_people_size a_X_now_people_cells v_X_rule_size v_X_rule_fault v3.2.1 v3.2.2 a_X_rule_row)) rfl (st1 := [.int v3.1]) rfl (fun H locs hP hD hS => ?_)
              refine lv_if_eq (tgt := 104) hx hb dX1_voiceOf_96 (by decide) (fun h96 => ?_) (fun h96 => ?_)
              · have hg := zp hg h96
                refine lv_iconst (v := 0) hx hb dX1_voiceOf_104 (by decide) ?_
                exact hret 0 v3.2.1 v3.2.2 hg _ _ _ _ hP hS dX1_voiceOf_105
              · have hg := zn hg h96
                refine lv_iload hx hb dX1_voiceOf_99 (lv_at hl 0 rfl) ?_
                refine lv_goto (tgt := 105) hx hb dX1_voiceOf_101 (by decide) ?_
                exact hret (a_X_now_settings 1) v3.2.1 v3.2.2 hg _ _ _ _ hP hS dX1_voiceOf_105
          · have hg := zn hg h23_4
            by_cases h23_5 : v1 = 5
            · have hg := zp hg h23_5
              refine lv_tableIn (tgt := 106) hx hb dX1_voiceOf_23 (by rw [h23_5]; decide) (by rw [h23_5]; decide) (by rw [h23_5]; rfl) (by decide) ?_
              refine lv_iload_n hx hb dX1_voiceOf_106 rfl (lv_at hl 4 rfl) ?_
              refine lv_aload_n hx hb dX1_voiceOf_107 rfl (lv_at hl 1 rfl) ?_
              refine zget (C := RX1) (T := TX1) (N := 5) S hK hP 0 rfl rfl 0 (Nat.le_of_ble_eq_true rfl) zf_1 zw_120 rfl dX1_voiceOf_108 ?_
              refine zget (C := RX9) (T := TX9) (N := 7) S hK hP 1 rfl rfl 5 (Nat.le_of_ble_eq_true rfl) zf_9 zw_632 rfl dX1_voiceOf_111 ?_
              refine lv_iconst (v := 2) hx hb dX1_voiceOf_114 (by decide) ?_
              refine ziald hx hb hK hP 2 0 rfl rfl (j := 2) (zin (by decide)) (by decide) dX1_voiceOf_115 ?_
              refine lv_icmp_ge (tgt := 123) hx hb dX1_voiceOf_116 (by decide) (fun h116 => ?_) (fun h116 => ?_)
              · have hg := zp hg h116
                refine lv_iconst (v := 0) hx hb dX1_voiceOf_123 (by decide) ?_
                exact hret 0 a_X_rule_known a_X_rule_stack hg _ _ _ _ hP hS dX1_voiceOf_124
              · have hg := zn hg h116
                refine lv_iconst (v := 1) hx hb dX1_voiceOf_119 (by decide) ?_
                refine lv_goto (tgt := 124) hx hb dX1_voiceOf_120 (by decide) ?_
                exact hret 1 a_X_rule_known a_X_rule_stack hg _ _ _ _ hP hS dX1_voiceOf_124
            · have hg := zn hg h23_5
              refine lv_tableOut (tgt := 125) hx hb dX1_voiceOf_23 (by have a0 := lv_neT h23_0 (a := 0) (by decide); have a1 := lv_neT h23_1 (a := 1) (by decide); have a2 := lv_neT h23_2 (a := 2) (by decide); have a3 := lv_neT h23_3 (a := 3) (by decide); have a4 := lv_neT h23_4 (a := 4) (by decide); have a5 := lv_neT h23_5 (a := 5) (by decide); omega) (by decide) ?_
              refine lv_iconst (v := 0) hx hb dX1_voiceOf_125 (by decide) ?_
              exact hret 0 a_X_rule_known a_X_rule_stack hg _ _ _ _ hP hS dX1_voiceOf_126

/-! SpokenClock$Day.together(IIIII)I -/
abbrev ws_X1_together (cI cJ cZ cA : ClassId) (q_X_day q_X_day_talkers q_X_now q_X_now_people q_X_now_people_cells q_X_now_settings q_X_rule q_X_rule_known q_X_rule_stack q_X_rule_row : Nat) (u_X_day_clocks : Value) (u_X_day_isStale : Value) (u_X_now_talks : Value) (u_X_now_dues : Value) (u_X_now_sights : Value) (u_X_now_rule : Value) (u_X_now_stake : Value) (u_X_now_people_limit : Value) (u_X_rule_place : Value) (u_X_rule_isStale : Value) (N_X_now_people_cells : Nat) (a_X_day_talkers : Nat → Int32) (v_X_now_people_width : Int32) (v_X_now_people_size : Int32) (a_X_now_people_cells : Nat → Int32) (a_X_now_settings : Nat → Int32) (v_X_rule_size : Int32) (v_X_rule_fault : Int32) (a_X_rule_known : Nat → Int32) (a_X_rule_stack : Nat → Int64) (a_X_rule_row : Nat → Int32) : va_W := [(q_X_day, .inr (1, [.ref q_X_now, .ref q_X_rule, .ref q_X_day_talkers, u_X_day_clocks, u_X_day_isStale])), (q_X_day_talkers, .inl (cI, 240, .inl a_X_day_talkers)), (q_X_now, .inr (9, [.ref q_X_now_people, u_X_now_talks, u_X_now_dues, u_X_now_sights, u_X_now_rule, .ref q_X_now_settings, u_X_now_stake])), (q_X_now_people, .inr (7, [.int v_X_now_people_width, u_X_now_people_limit, .ref q_X_now_people_cells, .int v_X_now_people_size])), (q_X_now_people_cells, .inl (cI, N_X_now_people_cells, .inl a_X_now_people_cells)), (q_X_now_settings, .inl (cI, 3, .inl a_X_now_settings)), (q_X_rule, .inr (8, [.ref q_X_now, .ref q_X_rule_row, .ref q_X_rule_stack, .ref q_X_rule_known, .int v_X_rule_size, u_X_rule_place, .int v_X_rule_fault, u_X_rule_isStale])), (q_X_rule_known, .inl (cI, 6, .inl a_X_rule_known)), (q_X_rule_stack, .inl (cJ, 40, .inr (.inl a_X_rule_stack))), (q_X_rule_row, .inl (cI, 40, .inl a_X_rule_row))]
abbrev rm_X1_together : Room := { frames := 4, cells := 0, slots := 0, locals := 96 }
def g_X1_together_65 (N_X_now_people_cells : Nat) (a_X_day_talkers : Nat → Int32) (v_X_now_people_width : Int32) (v_X_now_people_size : Int32) (a_X_now_people_cells : Nat → Int32) (a_X_now_settings : Nat → Int32) (v_X_rule_size : Int32) (v_X_rule_fault : Int32) (a_X_rule_row : Nat → Int32) (x1 : Int32) (x2 : Int32) (x3 : Int32) (x4 : Int32) (x5 : Int32) (k6 : Int32 → Int32 → (Nat → Int32) → (Nat → Int64) → Option (Int32 × (Nat → Int32) × (Nat → Int64))) (x6 : Int32) (x7 : Int32) (a_X_rule_known : Nat → Int32) (a_X_rule_stack : Nat → Int64) : Option (Int32 × (Nat → Int32) × (Nat → Int64)) :=
  k6 x6 (x7 + 1) a_X_rule_known a_X_rule_stack
def g_X1_together_6b (N_X_now_people_cells : Nat) (a_X_day_talkers : Nat → Int32) (v_X_now_people_width : Int32) (v_X_now_people_size : Int32) (a_X_now_people_cells : Nat → Int32) (a_X_now_settings : Nat → Int32) (v_X_rule_size : Int32) (v_X_rule_fault : Int32) (a_X_rule_row : Nat → Int32) (x1 : Int32) (x2 : Int32) (x3 : Int32) (x4 : Int32) (x5 : Int32) (k6 : Int32 → Int32 → (Nat → Int32) → (Nat → Int64) → Option (Int32 × (Nat → Int32) × (Nat → Int64))) (x6 : Int32) (x7 : Int32) (a_X_rule_known : Nat → Int32) (a_X_rule_stack : Nat → Int64) : Option (Int32 × (Nat → Int32) × (Nat → Int64)) :=
  if x5 ≤ x7 then (
    some (x6, a_X_rule_known, a_X_rule_stack)
  ) else (
    if ((x4 >>> (x7 &&& 31)) &&& 1) = 0 then (
      g_X1_together_65 N_X_now_people_cells a_X_day_talkers v_X_now_people_width v_X_now_people_size a_X_now_people_cells a_X_now_settings v_X_rule_size v_X_rule_fault a_X_rule_row x1 x2 x3 x4 x5 k6 x6 x7 a_X_rule_known a_X_rule_stack
    ) else (
      (g_X1_isTalking a_X_day_talkers x7 x2).bind fun v1 =>
      if v1 = 0 then (
        g_X1_together_65 N_X_now_people_cells a_X_day_talkers v_X_now_people_width v_X_now_people_size a_X_now_people_cells a_X_now_settings v_X_rule_size v_X_rule_fault a_X_rule_row x1 x2 x3 x4 x5 k6 x6 x7 a_X_rule_known a_X_rule_stack
      ) else (
        (g_X7_at N_X_now_people_cells v_X_now_people_width v_X_now_people_size a_X_now_people_cells x7 1).bind fun v3 =>
        if v3 = x1 then (
          (g_X1_voiceOf N_X_now_people_cells a_X_now_settings v_X_now_people_width v_X_now_people_size a_X_now_people_cells v_X_rule_size v_X_rule_fault a_X_rule_row x7 x2 x3 x6 a_X_rule_known a_X_rule_stack).bind fun v5 =>
          g_X1_together_65 N_X_now_people_cells a_X_day_talkers v_X_now_people_width v_X_now_people_size a_X_now_people_cells a_X_now_settings v_X_rule_size v_X_rule_fault a_X_rule_row x1 x2 x3 x4 x5 k6 (x6 + v5.1) x7 v5.2.1 v5.2.2
        ) else (
          g_X1_together_65 N_X_now_people_cells a_X_day_talkers v_X_now_people_width v_X_now_people_size a_X_now_people_cells a_X_now_settings v_X_rule_size v_X_rule_fault a_X_rule_row x1 x2 x3 x4 x5 k6 x6 x7 a_X_rule_known a_X_rule_stack
        )
      )
    )
  )
def g_X1_together_6 (N_X_now_people_cells : Nat) (a_X_day_talkers : Nat → Int32) (v_X_now_people_width : Int32) (v_X_now_people_size : Int32) (a_X_now_people_cells : Nat → Int32) (a_X_now_settings : Nat → Int32) (v_X_rule_size : Int32) (v_X_rule_fault : Int32) (a_X_rule_row : Nat → Int32) (x1 : Int32) (x2 : Int32) (x3 : Int32) (x4 : Int32) (x5 : Int32) : Nat → Int32 → Int32 → (Nat → Int32) → (Nat → Int64) → Option (Int32 × (Nat → Int32) × (Nat → Int64))
  | 0, _, _, _, _ => none
  | n + 1, x6, x7, a_X_rule_known, a_X_rule_stack => g_X1_together_6b N_X_now_people_cells a_X_day_talkers v_X_now_people_width v_X_now_people_size a_X_now_people_cells a_X_now_settings v_X_rule_size v_X_rule_fault a_X_rule_row x1 x2 x3 x4 x5 (g_X1_together_6 N_X_now_people_cells a_X_day_talkers v_X_now_people_width v_X_now_people_size a_X_now_people_cells a_X_now_settings v_X_rule_size v_X_rule_fault a_X_rule_row x1 x2 x3 x4 x5 n) x6 x7 a_X_rule_known a_X_rule_stack
def g_X1_together (N_X_now_people_cells : Nat) (a_X_day_talkers : Nat → Int32) (v_X_now_people_width : Int32) (v_X_now_people_size : Int32) (a_X_now_people_cells : Nat → Int32) (a_X_now_settings : Nat → Int32) (v_X_rule_size : Int32) (v_X_rule_fault : Int32) (a_X_rule_row : Nat → Int32) (x1 : Int32) (x2 : Int32) (x3 : Int32) (x4 : Int32) (x5 : Int32) (a_X_rule_known : Nat → Int32) (a_X_rule_stack : Nat → Int64) : Option (Int32 × (Nat → Int32) × (Nat → Int64)) :=
  g_X1_together_6 N_X_now_people_cells a_X_day_talkers v_X_now_people_width v_X_now_people_size a_X_now_people_cells a_X_now_settings v_X_rule_size v_X_rule_fault a_X_rule_row x1 x2 x3 x4 x5 zF 0 0 a_X_rule_known a_X_rule_stack
theorem hd_X1_together : yX1_together.cls = RX1 ∧ yX1_together.cls ≠ "java/lang/invoke/MethodHandle" ∧ yX1_together.cls ≠ "java/lang/invoke/VarHandle" ∧ (parseMethodDescriptor yX1_together.desc).map (fun d => d.parameters.length) = some 5 := by decide +kernel
set_option maxHeartbeats 4000000 in
set_option maxRecDepth 100000 in
theorem c_X1_together (l : Launch) (D : va_G) (cI cJ cZ cA : ClassId) (ga : Nat → Nat) (q_X_day q_X_day_talkers q_X_now q_X_now_people q_X_now_people_cells q_X_now_settings q_X_rule q_X_rule_known q_X_rule_stack q_X_rule_row : Nat) (u_X_day_clocks : Value) (u_X_day_isStale : Value) (u_X_now_talks : Value) (u_X_now_dues : Value) (u_X_now_sights : Value) (u_X_now_rule : Value) (u_X_now_stake : Value) (u_X_now_people_limit : Value) (u_X_rule_place : Value) (u_X_rule_isStale : Value) (N_X_now_people_cells : Nat) (a_X_day_talkers : Nat → Int32) (v_X_now_people_width : Int32) (v_X_now_people_size : Int32) (a_X_now_people_cells : Nat → Int32) (a_X_now_settings : Nat → Int32) (v_X_rule_size : Int32) (v_X_rule_fault : Int32) (a_X_rule_known : Nat → Int32) (a_X_rule_stack : Nat → Int64) (a_X_rule_row : Nat → Int32) (x1 : Int32) (x2 : Int32) (x3 : Int32) (x4 : Int32) (x5 : Int32) (o : Int32 × (Nat → Int32) × (Nat → Int64)) (hg : g_X1_together N_X_now_people_cells a_X_day_talkers v_X_now_people_width v_X_now_people_size a_X_now_people_cells a_X_now_settings v_X_rule_size v_X_rule_fault a_X_rule_row x1 x2 x3 x4 x5 a_X_rule_known a_X_rule_stack = some o) : zM l yX1_together (Cond.code yX1_together cX1_together 8 (some .int) :: wsL_law) rm_X1_together D (zTy cI cJ cZ cA) ga [.ref q_X_day, .int x1, .int x2, .int x3, .int x4, .int x5] (ws_X1_together cI cJ cZ cA q_X_day q_X_day_talkers q_X_now q_X_now_people q_X_now_people_cells q_X_now_settings q_X_rule q_X_rule_known q_X_rule_stack q_X_rule_row u_X_day_clocks u_X_day_isStale u_X_now_talks u_X_now_dues u_X_now_sights u_X_now_rule u_X_now_stake u_X_now_people_limit u_X_rule_place u_X_rule_isStale N_X_now_people_cells a_X_day_talkers v_X_now_people_width v_X_now_people_size a_X_now_people_cells a_X_now_settings v_X_rule_size v_X_rule_fault a_X_rule_known a_X_rule_stack a_X_rule_row) (ws_X1_together cI cJ cZ cA q_X_day q_X_day_talkers q_X_now q_X_now_people q_X_now_people_cells q_X_now_settings q_X_rule q_X_rule_known q_X_rule_stack q_X_rule_row u_X_day_clocks u_X_day_isStale u_X_now_talks u_X_now_dues u_X_now_sights u_X_now_rule u_X_now_stake u_X_now_people_limit u_X_rule_place u_X_rule_isStale N_X_now_people_cells a_X_day_talkers v_X_now_people_width v_X_now_people_size a_X_now_people_cells a_X_now_settings v_X_rule_size v_X_rule_fault o.2.1 o.2.2 a_X_rule_row) (some (.int o.1)) := by
  refine zenterI (own := RX1) (by decide) rfl rfl (Nat.le_of_ble_eq_true rfl) ?_
  intro p e s m args below meth c A ls Q S hA hK hG hl hP hD hS hret0
  have hx := S.1
  have hb := S.2.1
  have ht : ∀ w, w ∈ wsL_law → w.before args s = true := fun w h => S.2.2.2.2 w (List.mem_cons_of_mem _ h)
  have hret : ∀ (r9 : Int32) (a_X_rule_known : Nat → Int32) (a_X_rule_stack : Nat → Int64), (some (r9, a_X_rule_known, a_X_rule_stack) : Option (Int32 × (Nat → Int32) × (Nat → Int64))) = some o → ∀ (H : Heap) (locs : List Loc) (pc : Nat) (ls : Array Slot), va_P D vwCl (ws_X1_together cI cJ cZ cA q_X_day q_X_day_talkers q_X_now q_X_now_people q_X_now_people_cells q_X_now_settings q_X_rule q_X_rule_known q_X_rule_stack q_X_rule_row u_X_day_clocks u_X_day_isStale u_X_now_talks u_X_now_dues u_X_now_sights u_X_now_rule u_X_now_stake u_X_now_people_limit u_X_rule_place u_X_rule_isStale N_X_now_people_cells a_X_day_talkers v_X_now_people_width v_X_now_people_size a_X_now_people_cells a_X_now_settings v_X_rule_size v_X_rule_fault a_X_rule_known a_X_rule_stack a_X_rule_row) H → va_S A s.heap H locs → decode cX1_together pc = .ok (.ireturn, 1) → W p l e rm_X1_together s m args below meth c H locs 0 0 Q (F0 m pc ls [.int r9]) := by
    intro r9 a_X_rule_known a_X_rule_stack he; cases he; exact hret0
  have hl : lv_has ls 8 [(0, .ref q_X_day), (1, .int x1), (2, .int x2), (3, .int x3), (4, .int x4), (5, .int x5)] := hl
  have B65 : ∀ (k6 : Int32 → Int32 → (Nat → Int32) → (Nat → Int64) → Option (Int32 × (Nat → Int32) × (Nat → Int64))) (hk6 : ∀ (x6 : Int32) (x7 : Int32) (a_X_rule_known : Nat → Int32) (a_X_rule_stack : Nat → Int64) (H : Heap) (locs : List Loc) (ls : Array Slot) (hl : lv_has ls 8 [(0, .ref q_X_day), (1, .int x1), (2, .int x2), (3, .int x3), (4, .int x4), (5, .int x5), (6, .int x6), (7, .int x7)]) (hP : va_P D vwCl (ws_X1_together cI cJ cZ cA q_X_day q_X_day_talkers q_X_now q_X_now_people q_X_now_people_cells q_X_now_settings q_X_rule q_X_rule_known q_X_rule_stack q_X_rule_row u_X_day_clocks u_X_day_isStale u_X_now_talks u_X_now_dues u_X_now_sights u_X_now_rule u_X_now_stake u_X_now_people_limit u_X_rule_place u_X_rule_isStale N_X_now_people_cells a_X_day_talkers v_X_now_people_width v_X_now_people_size a_X_now_people_cells a_X_now_settings v_X_rule_size v_X_rule_fault a_X_rule_known a_X_rule_stack a_X_rule_row) H) (hD : va_D A (ws_X1_together cI cJ cZ cA q_X_day q_X_day_talkers q_X_now q_X_now_people q_X_now_people_cells q_X_now_settings q_X_rule q_X_rule_known q_X_rule_stack q_X_rule_row u_X_day_clocks u_X_day_isStale u_X_now_talks u_X_now_dues u_X_now_sights u_X_now_rule u_X_now_stake u_X_now_people_limit u_X_rule_place u_X_rule_isStale N_X_now_people_cells a_X_day_talkers v_X_now_people_width v_X_now_people_size a_X_now_people_cells a_X_now_settings v_X_rule_size v_X_rule_fault a_X_rule_known a_X_rule_stack a_X_rule_row)) (hS : va_S A s.heap H locs), k6 x6 x7 a_X_rule_known a_X_rule_stack = some o → W p l e rm_X1_together s m args below meth c H locs 0 0 Q (F0 m 6 ls [])) (x6 : Int32) (x7 : Int32) (a_X_rule_known : Nat → Int32) (a_X_rule_stack : Nat → Int64) (H : Heap) (locs : List Loc) (ls : Array Slot) (hl : lv_has ls 8 [(0, .ref q_X_day), (1, .int x1), (2, .int x2), (3, .int x3), (4, .int x4), (5, .int x5), (6, .int x6), (7, .int x7)]) (hP : va_P D vwCl (ws_X1_together cI cJ cZ cA q_X_day q_X_day_talkers q_X_now q_X_now_people q_X_now_people_cells q_X_now_settings q_X_rule q_X_rule_known q_X_rule_stack q_X_rule_row u_X_day_clocks u_X_day_isStale u_X_now_talks u_X_now_dues u_X_now_sights u_X_now_rule u_X_now_stake u_X_now_people_limit u_X_rule_place u_X_rule_isStale N_X_now_people_cells a_X_day_talkers v_X_now_people_width v_X_now_people_size a_X_now_people_cells a_X_now_settings v_X_rule_size v_X_rule_fault a_X_rule_known a_X_rule_stack a_X_rule_row) H) (hD : va_D A (ws_X1_together cI cJ cZ cA q_X_day q_X_day_talkers q_X_now q_X_now_people q_X_now_people_cells q_X_now_settings q_X_rule q_X_rule_known q_X_rule_stack q_X_rule_row u_X_day_clocks u_X_day_isStale u_X_now_talks u_X_now_dues u_X_now_sights u_X_now_rule u_X_now_stake u_X_now_people_limit u_X_rule_place u_X_rule_isStale N_X_now_people_cells a_X_day_talkers v_X_now_people_width v_X_now_people_size a_X_now_people_cells a_X_now_settings v_X_rule_size v_X_rule_fault a_X_rule_known a_X_rule_stack a_X_rule_row)) (hS : va_S A s.heap H locs), g_X1_together_65 N_X_now_people_cells a_X_day_talkers v_X_now_people_width v_X_now_people_size a_X_now_people_cells a_X_now_settings v_X_rule_size v_X_rule_fault a_X_rule_row x1 x2 x3 x4 x5 k6 x6 x7 a_X_rule_known a_X_rule_stack = some o → W p l e rm_X1_together s m args below meth c H locs 0 0 Q (F0 m 65 ls []) := by
    intro k6 hk6 x6 x7 a_X_rule_known a_X_rule_stack H locs ls hl hP hD hS hg
    refine lv_iinc (k := 7) (v := x7 + 1) (lv' := [(7, .int (x7 + 1)), (0, .ref q_X_day), (1, .int x1), (2, .int x2), (3, .int x3), (4, .int x4), (5, .int x5), (6, .int x6)]) hx hb dX1_together_65 hl rfl (zinc (by decide)) (by decide) rfl (fun ls hl => ?_)
    refine lv_goto (tgt := 6) hx hb dX1_together_68 (by decide) ?_
    exact hk6 x6 (x7 + 1) a_X_rule_known a_X_rule_stack _ _ _ (lv_sub hl [1, 2, 3, 4, 5, 6, 7, 0] rfl) hP hD hS hg
  have B6 : ∀  (n : Nat) (x6 : Int32) (x7 : Int32) (a_X_rule_known : Nat → Int32) (a_X_rule_stack : Nat → Int64) (H : Heap) (locs : List Loc) (ls : Array Slot) (hl : lv_has ls 8 [(0, .ref q_X_day), (1, .int x1), (2, .int x2), (3, .int x3), (4, .int x4), (5, .int x5), (6, .int x6), (7, .int x7)]) (hP : va_P D vwCl (ws_X1_together cI cJ cZ cA q_X_day q_X_day_talkers q_X_now q_X_now_people q_X_now_people_cells q_X_now_settings q_X_rule q_X_rule_known q_X_rule_stack q_X_rule_row u_X_day_clocks u_X_day_isStale u_X_now_talks u_X_now_dues u_X_now_sights u_X_now_rule u_X_now_stake u_X_now_people_limit u_X_rule_place u_X_rule_isStale N_X_now_people_cells a_X_day_talkers v_X_now_people_width v_X_now_people_size a_X_now_people_cells a_X_now_settings v_X_rule_size v_X_rule_fault a_X_rule_known a_X_rule_stack a_X_rule_row) H) (hD : va_D A (ws_X1_together cI cJ cZ cA q_X_day q_X_day_talkers q_X_now q_X_now_people q_X_now_people_cells q_X_now_settings q_X_rule q_X_rule_known q_X_rule_stack q_X_rule_row u_X_day_clocks u_X_day_isStale u_X_now_talks u_X_now_dues u_X_now_sights u_X_now_rule u_X_now_stake u_X_now_people_limit u_X_rule_place u_X_rule_isStale N_X_now_people_cells a_X_day_talkers v_X_now_people_width v_X_now_people_size a_X_now_people_cells a_X_now_settings v_X_rule_size v_X_rule_fault a_X_rule_known a_X_rule_stack a_X_rule_row)) (hS : va_S A s.heap H locs), g_X1_together_6 N_X_now_people_cells a_X_day_talkers v_X_now_people_width v_X_now_people_size a_X_now_people_cells a_X_now_settings v_X_rule_size v_X_rule_fault a_X_rule_row x1 x2 x3 x4 x5 n x6 x7 a_X_rule_known a_X_rule_stack = some o → W p l e rm_X1_together s m args below meth c H locs 0 0 Q (F0 m 6 ls []) := by
    intro  n
    induction n with
    | zero => intro x6 x7 a_X_rule_known a_X_rule_stack H locs ls hl hP hD hS hg; exact nomatch (show (none : Option (Int32 × (Nat → Int32) × (Nat → Int64))) = some o from hg)
    | succ n ih =>
      intro x6 x7 a_X_rule_known a_X_rule_stack H locs ls hl hP hD hS hg
      have hg : g_X1_together_6b N_X_now_people_cells a_X_day_talkers v_X_now_people_width v_X_now_people_size a_X_now_people_cells a_X_now_settings v_X_rule_size v_X_rule_fault a_X_rule_row x1 x2 x3 x4 x5 (g_X1_together_6 N_X_now_people_cells a_X_day_talkers v_X_now_people_width v_X_now_people_size a_X_now_people_cells a_X_now_settings v_X_rule_size v_X_rule_fault a_X_rule_row x1 x2 x3 x4 x5 n) x6 x7 a_X_rule_known a_X_rule_stack = some o := hg
      refine lv_iload hx hb dX1_together_6 (lv_at hl 7 rfl) ?_
      refine lv_iload hx hb dX1_together_8 (lv_at hl 5 rfl) ?_
      refine lv_icmp_ge (tgt := 71) hx hb dX1_together_10 (by decide) (fun h10 => ?_) (fun h10 => ?_)
      · have hg := zp hg h10
        refine lv_iload hx hb dX1_together_71 (lv_at hl 6 rfl) ?_
        exact hret x6 a_X_rule_known a_X_rule_stack hg _ _ _ _ hP hS dX1_together_73
      · have hg := zn hg h10
        refine lv_iload hx hb dX1_together_13 (lv_at hl 4 rfl) ?_
        refine lv_iload hx hb dX1_together_15 (lv_at hl 7 rfl) ?_
        refine lv_ishr hx hb dX1_together_17 ?_
        refine lv_iconst (v := 1) hx hb dX1_together_18 (by decide) ?_
        refine lv_iand hx hb dX1_together_19 ?_
        refine lv_if_eq (tgt := 65) hx hb dX1_together_20 (by decide) (fun h20 => ?_) (fun h20 => ?_)
        · have hg := zp hg h20
          exact B65 (g_X1_together_6 N_X_now_people_cells a_X_day_talkers v_X_now_people_width v_X_now_people_size a_X_now_people_cells a_X_now_settings v_X_rule_size v_X_rule_fault a_X_rule_row x1 x2 x3 x4 x5 n) ih x6 x7 a_X_rule_known a_X_rule_stack _ _ _ hl hP hD hS hg
        · have hg := zn hg h20
          refine lv_aload_n hx hb dX1_together_23 rfl (lv_at hl 0 rfl) ?_
          refine lv_iload hx hb dX1_together_24 (lv_at hl 7 rfl) ?_
          refine lv_iload_n hx hb dX1_together_26 rfl (lv_at hl 2 rfl) ?_
          obtain ⟨v1, hc2, hg⟩ := zbd hg
          refine zcallV (rest := []) S (c_X1_isTalking l D cI cJ cZ cA ga q_X_day q_X_day_talkers (.ref q_X_now) (.ref q_X_rule) u_X_day_clocks u_X_day_isStale a_X_day_talkers x7 x2 v1 hc2) (zgV zw_650 zw_651 zw_652 zw_38 zw_653) rfl hd_X1_isTalking ⟨rfl, rfl⟩ ⟨Nat.le_of_ble_eq_true rfl, Nat.le_of_ble_eq_true rfl⟩ 0 1 rfl rfl rfl hl.1 rfl (Nat.le_of_ble_eq_true rfl) dX1_together_27 hP hD hS hA hK hG (isC := [0, 1]) rfl (by decide +kernel) rfl ⟨Nat.zero_le _, Nat.zero_le _⟩ (pl := [some 0, some 1, none, none, none, none, none, none, none, none]) (nw := 10) rfl (by decide +kernel) (w2 := (ws_X1_together cI cJ cZ cA q_X_day q_X_day_talkers q_X_now q_X_now_people q_X_now_people_cells q_X_now_settings q_X_rule q_X_rule_known q_X_rule_stack q_X_rule_row u_X_day_clocks u_X_day_isStale u_X_now_talks u_X_now_dues u_X_now_sights u_X_now_rule u_X_now_stake u_X_now_people_limit u_X_rule_place u_X_rule_isStale N_X_now_people_cells a_X_day_talkers v_X_now_people_width v_X_now_people_size a_X_now_people_cells a_X_now_settings v_X_rule_size v_X_rule_fault a_X_rule_known a_X_rule_stack a_X_rule_row)) rfl (st1 := [.int v1]) rfl (fun H locs hP hD hS => ?_)
          refine lv_if_eq (tgt := 65) hx hb dX1_together_30 (by decide) (fun h30 => ?_) (fun h30 => ?_)
          · have hg := zp hg h30
            exact B65 (g_X1_together_6 N_X_now_people_cells a_X_day_talkers v_X_now_people_width v_X_now_people_size a_X_now_people_cells a_X_now_settings v_X_rule_size v_X_rule_fault a_X_rule_row x1 x2 x3 x4 x5 n) ih x6 x7 a_X_rule_known a_X_rule_stack _ _ _ hl hP hD hS hg
          · have hg := zn hg h30
            refine lv_aload_n hx hb dX1_together_33 rfl (lv_at hl 0 rfl) ?_
            refine zget (C := RX1) (T := TX1) (N := 5) S hK hP 0 rfl rfl 0 (Nat.le_of_ble_eq_true rfl) zf_1 zw_120 rfl dX1_together_34 ?_
            refine zget (C := RX9) (T := TX9) (N := 7) S hK hP 2 rfl rfl 0 (Nat.le_of_ble_eq_true rfl) zf_9 zw_631 rfl dX1_together_37 ?_
            refine lv_iload hx hb dX1_together_40 (lv_at hl 7 rfl) ?_
            refine lv_iconst (v := 1) hx hb dX1_together_42 (by decide) ?_
            obtain ⟨v3, hc4, hg⟩ := zbd hg
            refine zcallV (rest := []) S (c_X7_at l D cI cJ cZ cA ga q_X_now_people q_X_now_people_cells u_X_now_people_limit N_X_now_people_cells v_X_now_people_width v_X_now_people_size a_X_now_people_cells x7 1 v3 hc4) (zgV zw_645 zw_353 zw_354 zw_32 zw_355) rfl hd_X7_at ⟨rfl, rfl⟩ ⟨Nat.le_of_ble_eq_true rfl, Nat.le_of_ble_eq_true rfl⟩ 3 7 rfl rfl rfl hl.1 rfl (Nat.le_of_ble_eq_true rfl) dX1_together_43 hP hD hS hA hK hG (isC := [3, 4]) rfl (by decide +kernel) rfl ⟨Nat.zero_le _, Nat.zero_le _⟩ (pl := [none, none, none, some 0, some 1, none, none, none, none, none]) (nw := 10) rfl (by decide +kernel) (w2 := (ws_X1_together cI cJ cZ cA q_X_day q_X_day_talkers q_X_now q_X_now_people q_X_now_people_cells q_X_now_settings q_X_rule q_X_rule_known q_X_rule_stack q_X_rule_row u_X_day_clocks u_X_day_isStale u_X_now_talks u_X_now_dues u_X_now_sights u_X_now_rule u_X_now_stake u_X_now_people_limit u_X_rule_place u_X_rule_isStale N_X_now_people_cells a_X_day_talkers v_X_now_people_width v_X_now_people_size a_X_now_people_cells a_X_now_settings v_X_rule_size v_X_rule_fault a_X_rule_known a_X_rule_stack a_X_rule_row)) rfl (st1 := [.int v3]) rfl (fun H locs hP hD hS => ?_)
            refine lv_iload_n hx hb dX1_together_46 rfl (lv_at hl 1 rfl) ?_
            refine lv_icmp_ne (tgt := 65) hx hb dX1_together_47 (by decide) (fun h47 => ?_) (fun h47 => ?_)
            · have hg := zn hg h47
              exact B65 (g_X1_together_6 N_X_now_people_cells a_X_day_talkers v_X_now_people_width v_X_now_people_size a_X_now_people_cells a_X_now_settings v_X_rule_size v_X_rule_fault a_X_rule_row x1 x2 x3 x4 x5 n) ih x6 x7 a_X_rule_known a_X_rule_stack _ _ _ hl hP hD hS hg
            · have hg := zp hg h47
              refine lv_iload hx hb dX1_together_50 (lv_at hl 6 rfl) ?_
              refine lv_aload_n hx hb dX1_together_52 rfl (lv_at hl 0 rfl) ?_
              refine lv_iload hx hb dX1_together_53 (lv_at hl 7 rfl) ?_
              refine lv_iload_n hx hb dX1_together_55 rfl (lv_at hl 2 rfl) ?_
              refine lv_iload_n hx hb dX1_together_56 rfl (lv_at hl 3 rfl) ?_
              refine lv_iload hx hb dX1_together_57 (lv_at hl 6 rfl) ?_
              obtain ⟨v5, hc6, hg⟩ := zbd hg
              refine zcallV (rest := [.int x6]) S (c_X1_voiceOf l D cI cJ cZ cA ga q_X_day q_X_now q_X_now_settings q_X_now_people q_X_now_people_cells q_X_rule q_X_rule_known q_X_rule_stack q_X_rule_row (.ref q_X_day_talkers) u_X_day_clocks u_X_day_isStale u_X_now_talks u_X_now_dues u_X_now_sights u_X_now_rule u_X_now_stake u_X_now_people_limit u_X_rule_place u_X_rule_isStale N_X_now_people_cells a_X_now_settings v_X_now_people_width v_X_now_people_size a_X_now_people_cells v_X_rule_size v_X_rule_fault a_X_rule_known a_X_rule_stack a_X_rule_row x7 x2 x3 x6 v5 hc6) (zgV zw_654 zw_655 zw_656 zw_38 zw_657) rfl hd_X1_voiceOf ⟨rfl, rfl⟩ ⟨Nat.le_of_ble_eq_true rfl, Nat.le_of_ble_eq_true rfl⟩ 0 1 rfl rfl rfl hl.1 rfl (Nat.le_of_ble_eq_true rfl) dX1_together_59 hP hD hS hA hK hG (isC := [0, 2, 5, 3, 4, 6, 7, 8, 9]) rfl (by decide +kernel) rfl ⟨Nat.zero_le _, Nat.zero_le _⟩ (pl := [some 0, none, some 1, some 3, some 4, some 2, some 5, some 6, some 7, some 8]) (nw := 10) rfl (by decide +kernel) (w2 := (ws_X1_together cI cJ cZ cA q_X_day q_X_day_talkers q_X_now q_X_now_people q_X_now_people_cells q_X_now_settings q_X_rule q_X_rule_known q_X_rule_stack q_X_rule_row u_X_day_clocks u_X_day_isStale u_X_now_talks u_X_now_dues u_X_now_sights u_X_now_rule u_X_now_stake u_X_now_people_limit u_X_rule_place u_X_rule_isStale N_X_now_people_cells a_X_day_talkers v_X_now_people_width v_X_now_people_size a_X_now_people_cells a_X_now_settings v_X_rule_size v_X_rule_fault v5.2.1 v5.2.2 a_X_rule_row)) rfl (st1 := [.int v5.1, .int x6]) rfl (fun H locs hP hD hS => ?_)
              refine lv_iadd hx hb dX1_together_62 ?_
              refine lv_istore (lv' := [(6, .int (x6 + v5.1)), (0, .ref q_X_day), (1, .int x1), (2, .int x2), (3, .int x3), (4, .int x4), (5, .int x5), (7, .int x7)]) hx hb dX1_together_63 hl (by decide) rfl (fun ls hl => ?_)
              exact B65 (g_X1_together_6 N_X_now_people_cells a_X_day_talkers v_X_now_people_width v_X_now_people_size a_X_now_people_cells a_X_now_settings v_X_rule_size v_X_rule_fault a_X_rule_row x1 x2 x3 x4 x5 n) ih (x6 + v5.1) x7 v5.2.1 v5.2.2 _ _ _ (lv_sub hl [1, 2, 3, 4, 5, 6, 0, 7] rfl) hP hD hS hg
  refine lv_iconst (v := 0) hx hb dX1_together_0 (by decide) ?_
  refine lv_istore (lv' := [(6, .int 0), (0, .ref q_X_day), (1, .int x1), (2, .int x2), (3, .int x3), (4, .int x4), (5, .int x5)]) hx hb dX1_together_1 hl (by decide) rfl (fun ls hl => ?_)
  refine lv_iconst (v := 0) hx hb dX1_together_3 (by decide) ?_
  refine lv_istore (lv' := [(7, .int 0), (6, .int 0), (0, .ref q_X_day), (1, .int x1), (2, .int x2), (3, .int x3), (4, .int x4), (5, .int x5)]) hx hb dX1_together_4 hl (by decide) rfl (fun ls hl => ?_)
  exact B6 zF 0 0 a_X_rule_known a_X_rule_stack _ _ _ (lv_sub hl [2, 3, 4, 5, 6, 7, 1, 0] rfl) hP hD hS hg

