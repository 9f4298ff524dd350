/-! SpokenClock.paid(I)I -/
abbrev ws_X10_paid (cI cJ cZ cA : ClassId) (q_X q_X_now q_X_now_dues q_X_rule q_X_now_rule q_X_now_rule_cells q_X_rule_row q_X_day q_X_day_talkers q_X_now_talks q_X_now_talks_cells q_X_now_people q_X_day_clocks q_X_day_clocks0 q_X_day_clocks1 q_X_now_people_cells q_X_now_settings q_X_rule_known q_X_rule_stack q_X_now_dues_cells q_X_refusals : Nat) (u_X_draft : Value) (u_X_text : Value) (u_X_reader : Value) (u_X_plan : Value) (u_X_guess : Value) (u_X_quarrel : Value) (u_X_fraction : Value) (u_X_firstImage : Value) (u_X_secondImage : Value) (u_X_kept : Value) (u_X_now_sights : Value) (u_X_now_stake : Value) (u_X_now_dues_limit : Value) (u_X_now_rule_limit : Value) (u_X_now_talks_limit : Value) (u_X_now_people_limit : Value) (N_X_now_rule_cells : Nat) (N_X_now_talks_cells : Nat) (N_X_now_people_cells : Nat) (N_X_now_dues_cells : Nat) (v_X_now_dues_width : Int32) (v_X_now_dues_size : Int32) (v_X_rule_size : Int32) (v_X_rule_place : Int32) (v_X_rule_fault : Int32) (v_X_rule_isStale : Int32) (v_X_now_rule_width : Int32) (v_X_now_rule_size : Int32) (a_X_now_rule_cells : Nat → Int32) (a_X_rule_row : Nat → Int32) (v_X_day_isStale : Int32) (a_X_day_talkers : Nat → Int32) (v_X_now_talks_width : Int32) (v_X_now_talks_size : Int32) (a_X_now_talks_cells : Nat → Int32) (v_X_now_people_width : Int32) (v_X_now_people_size : Int32) (a_X_day_clocks0 : Nat → Int32) (a_X_day_clocks1 : Nat → Int32) (a_X_now_people_cells : Nat → Int32) (a_X_now_settings : Nat → Int32) (a_X_rule_known : Nat → Int32) (a_X_rule_stack : Nat → Int64) (a_X_now_dues_cells : Nat → Int32) (a_X_refusals : Nat → Int32) : va_W := [(q_X, .inr (10, [.ref q_X_now, u_X_draft, u_X_text, u_X_reader, .ref q_X_rule, .ref q_X_day, u_X_plan, u_X_guess, u_X_quarrel, u_X_fraction, u_X_firstImage, u_X_secondImage, u_X_kept, .ref q_X_refusals])), (q_X_now, .inr (9, [.ref q_X_now_people, .ref q_X_now_talks, .ref q_X_now_dues, u_X_now_sights, .ref q_X_now_rule, .ref q_X_now_settings, u_X_now_stake])), (q_X_now_dues, .inr (7, [.int v_X_now_dues_width, u_X_now_dues_limit, .ref q_X_now_dues_cells, .int v_X_now_dues_size])), (q_X_rule, .inr (8, [.ref q_X_now, .ref q_X_rule_row, .ref q_X_rule_stack, .ref q_X_rule_known, .int v_X_rule_size, .int v_X_rule_place, .int v_X_rule_fault, .int v_X_rule_isStale])), (q_X_now_rule, .inr (7, [.int v_X_now_rule_width, u_X_now_rule_limit, .ref q_X_now_rule_cells, .int v_X_now_rule_size])), (q_X_now_rule_cells, .inl (cI, N_X_now_rule_cells, .inl a_X_now_rule_cells)), (q_X_rule_row, .inl (cI, 40, .inl a_X_rule_row)), (q_X_day, .inr (1, [.ref q_X_now, .ref q_X_rule, .ref q_X_day_talkers, .ref q_X_day_clocks, .int v_X_day_isStale])), (q_X_day_talkers, .inl (cI, 240, .inl a_X_day_talkers)), (q_X_now_talks, .inr (7, [.int v_X_now_talks_width, u_X_now_talks_limit, .ref q_X_now_talks_cells, .int v_X_now_talks_size])), (q_X_now_talks_cells, .inl (cI, N_X_now_talks_cells, .inl a_X_now_talks_cells)), (q_X_now_people, .inr (7, [.int v_X_now_people_width, u_X_now_people_limit, .ref q_X_now_people_cells, .int v_X_now_people_size])), (q_X_day_clocks, .inl (cA, 2, .inr (.inr (.inr (.inr (zg2 (some q_X_day_clocks0) (some q_X_day_clocks1))))))), (q_X_day_clocks0, .inl (cI, 241, .inl a_X_day_clocks0)), (q_X_day_clocks1, .inl (cI, 241, .inl a_X_day_clocks1)), (q_X_now_people_cells, .inl (cI, N_X_now_people_cells, .inl a_X_now_people_cells)), (q_X_now_settings, .inl (cI, 3, .inl a_X_now_settings)), (q_X_rule_known, .inl (cI, 6, .inl a_X_rule_known)), (q_X_rule_stack, .inl (cJ, 40, .inr (.inl a_X_rule_stack))), (q_X_now_dues_cells, .inl (cI, N_X_now_dues_cells, .inl a_X_now_dues_cells)), (q_X_refusals, .inl (cI, 3, .inl a_X_refusals))]
abbrev rm_X10_paid : Room := { frames := 147, cells := 0, slots := 0, locals := 5585 }
def g_X10_paid_89 (N_X_now_rule_cells : Nat) (N_X_now_talks_cells : Nat) (N_X_now_people_cells : Nat) (N_X_now_dues_cells : Nat) (v_X_now_dues_width : Int32) (v_X_now_dues_size : Int32) (v_X_now_rule_width : Int32) (v_X_now_rule_size : Int32) (a_X_now_rule_cells : Nat → Int32) (v_X_now_talks_width : Int32) (v_X_now_talks_size : Int32) (a_X_now_talks_cells : Nat → Int32) (v_X_now_people_width : Int32) (v_X_now_people_size : Int32) (a_X_now_people_cells : Nat → Int32) (a_X_now_settings : Nat → Int32) (a_X_now_dues_cells : Nat → Int32) (x1 : Int32) (k52 : Int32 → Int32 → Int32 → Int32 → Int32 → Int32 → (Nat → Int32) → Int32 → (Nat → Int32) → (Nat → Int32) → (Nat → Int32) → (Nat → Int32) → (Nat → Int64) → (Nat → Int32) → Option (Int32 × Int32 × Int32 × Int32 × Int32 × (Nat → Int32) × Int32 × (Nat → Int32) × (Nat → Int32) × (Nat → Int32) × (Nat → Int32) × (Nat → Int64) × (Nat → Int32))) (x2 : Int32) (x3 : Int32) (v_X_rule_size : Int32) (v_X_rule_place : Int32) (v_X_rule_fault : Int32) (v_X_rule_isStale : Int32) (a_X_rule_row : Nat → Int32) (v_X_day_isStale : Int32) (a_X_day_talkers : Nat → Int32) (a_X_day_clocks0 : Nat → Int32) (a_X_day_clocks1 : Nat → Int32) (a_X_rule_known : Nat → Int32) (a_X_rule_stack : Nat → Int64) (a_X_refusals : Nat → Int32) : Option (Int32 × Int32 × Int32 × Int32 × Int32 × (Nat → Int32) × Int32 × (Nat → Int32) × (Nat → Int32) × (Nat → Int32) × (Nat → Int32) × (Nat → Int64) × (Nat → Int32)) :=
  k52 x2 (x3 + 1) v_X_rule_size v_X_rule_place v_X_rule_fault v_X_rule_isStale a_X_rule_row v_X_day_isStale a_X_day_talkers a_X_day_clocks0 a_X_day_clocks1 a_X_rule_known a_X_rule_stack a_X_refusals
def g_X10_paid_52b (N_X_now_rule_cells : Nat) (N_X_now_talks_cells : Nat) (N_X_now_people_cells : Nat) (N_X_now_dues_cells : Nat) (v_X_now_dues_width : Int32) (v_X_now_dues_size : Int32) (v_X_now_rule_width : Int32) (v_X_now_rule_size : Int32) (a_X_now_rule_cells : Nat → Int32) (v_X_now_talks_width : Int32) (v_X_now_talks_size : Int32) (a_X_now_talks_cells : Nat → Int32) (v_X_now_people_width : Int32) (v_X_now_people_size : Int32) (a_X_now_people_cells : Nat → Int32) (a_X_now_settings : Nat → Int32) (a_X_now_dues_cells : Nat → Int32) (x1 : Int32) (k52 : Int32 → Int32 → Int32 → Int32 → Int32 → Int32 → (Nat → Int32) → Int32 → (Nat → Int32) → (Nat → Int32) → (Nat → Int32) → (Nat → Int32) → (Nat → Int64) → (Nat → Int32) → Option (Int32 × Int32 × Int32 × Int32 × Int32 × (Nat → Int32) × Int32 × (Nat → Int32) × (Nat → Int32) × (Nat → Int32) × (Nat → Int32) × (Nat → Int64) × (Nat → Int32))) (x2 : Int32) (x3 : Int32) (v_X_rule_size : Int32) (v_X_rule_place : Int32) (v_X_rule_fault : Int32) (v_X_rule_isStale : Int32) (a_X_rule_row : Nat → Int32) (v_X_day_isStale : Int32) (a_X_day_talkers : Nat → Int32) (a_X_day_clocks0 : Nat → Int32) (a_X_day_clocks1 : Nat → Int32) (a_X_rule_known : Nat → Int32) (a_X_rule_stack : Nat → Int64) (a_X_refusals : Nat → Int32) : Option (Int32 × Int32 × Int32 × Int32 × Int32 × (Nat → Int32) × Int32 × (Nat → Int32) × (Nat → Int32) × (Nat → Int32) × (Nat → Int32) × (Nat → Int64) × (Nat → Int32)) :=
  (g_X7_size v_X_now_dues_size).bind fun v7 =>
  if v7 ≤ x3 then (
    some (x2, v_X_rule_size, v_X_rule_place, v_X_rule_fault, v_X_rule_isStale, a_X_rule_row, v_X_day_isStale, a_X_day_talkers, a_X_day_clocks0, a_X_day_clocks1, a_X_rule_known, a_X_rule_stack, a_X_refusals)
  ) else (
    (g_X10_isPaid N_X_now_dues_cells v_X_now_dues_width v_X_now_dues_size a_X_now_dues_cells a_X_day_clocks0 a_X_day_clocks1 x3).bind fun v9 =>
    if v9 = 0 then (
      g_X10_paid_89 N_X_now_rule_cells N_X_now_talks_cells N_X_now_people_cells N_X_now_dues_cells v_X_now_dues_width v_X_now_dues_size v_X_now_rule_width v_X_now_rule_size a_X_now_rule_cells v_X_now_talks_width v_X_now_talks_size a_X_now_talks_cells v_X_now_people_width v_X_now_people_size a_X_now_people_cells a_X_now_settings a_X_now_dues_cells x1 k52 x2 x3 v_X_rule_size v_X_rule_place v_X_rule_fault v_X_rule_isStale a_X_rule_row v_X_day_isStale a_X_day_talkers a_X_day_clocks0 a_X_day_clocks1 a_X_rule_known a_X_rule_stack a_X_refusals
    ) else (
      (g_X7_at N_X_now_dues_cells v_X_now_dues_width v_X_now_dues_size a_X_now_dues_cells x3 2).bind fun v11 =>
      g_X10_paid_89 N_X_now_rule_cells N_X_now_talks_cells N_X_now_people_cells N_X_now_dues_cells v_X_now_dues_width v_X_now_dues_size v_X_now_rule_width v_X_now_rule_size a_X_now_rule_cells v_X_now_talks_width v_X_now_talks_size a_X_now_talks_cells v_X_now_people_width v_X_now_people_size a_X_now_people_cells a_X_now_settings a_X_now_dues_cells x1 k52 (x2 + v11) x3 v_X_rule_size v_X_rule_place v_X_rule_fault v_X_rule_isStale a_X_rule_row v_X_day_isStale a_X_day_talkers a_X_day_clocks0 a_X_day_clocks1 a_X_rule_known a_X_rule_stack a_X_refusals
    )
  )
def g_X10_paid_52 (N_X_now_rule_cells : Nat) (N_X_now_talks_cells : Nat) (N_X_now_people_cells : Nat) (N_X_now_dues_cells : Nat) (v_X_now_dues_width : Int32) (v_X_now_dues_size : Int32) (v_X_now_rule_width : Int32) (v_X_now_rule_size : Int32) (a_X_now_rule_cells : Nat → Int32) (v_X_now_talks_width : Int32) (v_X_now_talks_size : Int32) (a_X_now_talks_cells : Nat → Int32) (v_X_now_people_width : Int32) (v_X_now_people_size : Int32) (a_X_now_people_cells : Nat → Int32) (a_X_now_settings : Nat → Int32) (a_X_now_dues_cells : Nat → Int32) (x1 : Int32) : Nat → Int32 → Int32 → Int32 → Int32 → Int32 → Int32 → (Nat → Int32) → Int32 → (Nat → Int32) → (Nat → Int32) → (Nat → Int32) → (Nat → Int32) → (Nat → Int64) → (Nat → Int32) → Option (Int32 × Int32 × Int32 × Int32 × Int32 × (Nat → Int32) × Int32 × (Nat → Int32) × (Nat → Int32) × (Nat → Int32) × (Nat → Int32) × (Nat → Int64) × (Nat → Int32))
  | 0, _, _, _, _, _, _, _, _, _, _, _, _, _, _ => none
  | n + 1, x2, x3, v_X_rule_size, v_X_rule_place, v_X_rule_fault, v_X_rule_isStale, a_X_rule_row, v_X_day_isStale, a_X_day_talkers, a_X_day_clocks0, a_X_day_clocks1, a_X_rule_known, a_X_rule_stack, a_X_refusals => g_X10_paid_52b N_X_now_rule_cells N_X_now_talks_cells N_X_now_people_cells N_X_now_dues_cells v_X_now_dues_width v_X_now_dues_size v_X_now_rule_width v_X_now_rule_size a_X_now_rule_cells v_X_now_talks_width v_X_now_talks_size a_X_now_talks_cells v_X_now_people_width v_X_now_people_size a_X_now_people_cells a_X_now_settings a_X_now_dues_cells x1 (g_X10_paid_52 N_X_now_rule_cells N_X_now_talks_cells N_X_now_people_cells N_X_now_dues_cells v_X_now_dues_width v_X_now_dues_size v_X_now_rule_width v_X_now_rule_size a_X_now_rule_cells v_X_now_talks_width v_X_now_talks_size a_X_now_talks_cells v_X_now_people_width v_X_now_people_size a_X_now_people_cells a_X_now_settings a_X_now_dues_cells x1 n) x2 x3 v_X_rule_size v_X_rule_place v_X_rule_fault v_X_rule_isStale a_X_rule_row v_X_day_isStale a_X_day_talkers a_X_day_clocks0 a_X_day_clocks1 a_X_rule_known a_X_rule_stack a_X_refusals
def g_X10_paid (N_X_now_rule_cells : Nat) (N_X_now_talks_cells : Nat) (N_X_now_people_cells : Nat) (N_X_now_dues_cells : Nat) (v_X_now_dues_width : Int32) (v_X_now_dues_size : Int32) (v_X_now_rule_width : Int32) (v_X_now_rule_size : Int32) (a_X_now_rule_cells : Nat → Int32) (v_X_now_talks_width : Int32) (v_X_now_talks_size : Int32) (a_X_now_talks_cells : Nat → Int32) (v_X_now_people_width : Int32) (v_X_now_people_size : Int32) (a_X_now_people_cells : Nat → Int32) (a_X_now_settings : Nat → Int32) (a_X_now_dues_cells : Nat → Int32) (x1 : Int32) (v_X_rule_size : Int32) (v_X_rule_place : Int32) (v_X_rule_fault : Int32) (v_X_rule_isStale : Int32) (a_X_rule_row : Nat → Int32) (v_X_day_isStale : Int32) (a_X_day_talkers : Nat → Int32) (a_X_day_clocks0 : Nat → Int32) (a_X_day_clocks1 : Nat → Int32) (a_X_rule_known : Nat → Int32) (a_X_rule_stack : Nat → Int64) (a_X_refusals : Nat → Int32) : Option (Int32 × Int32 × Int32 × Int32 × Int32 × (Nat → Int32) × Int32 × (Nat → Int32) × (Nat → Int32) × (Nat → Int32) × (Nat → Int32) × (Nat → Int64) × (Nat → Int32)) :=
  (g_X7_size v_X_now_dues_size).bind fun v1 =>
  (g_X10_isIn x1 (-1) (v1 - 1)).bind fun v3 =>
  if v3 = 0 then (
    (g_X10_refuseWorth a_X_refusals).bind fun v15 =>
    some (v15.1, v_X_rule_size, v_X_rule_place, v_X_rule_fault, v_X_rule_isStale, a_X_rule_row, v_X_day_isStale, a_X_day_talkers, a_X_day_clocks0, a_X_day_clocks1, a_X_rule_known, a_X_rule_stack, v15.2)
  ) else (
    (g_X10_prepare N_X_now_rule_cells N_X_now_talks_cells N_X_now_people_cells v_X_now_rule_width v_X_now_rule_size a_X_now_rule_cells v_X_now_talks_width v_X_now_talks_size a_X_now_talks_cells v_X_now_people_width v_X_now_people_size a_X_now_people_cells a_X_now_settings v_X_rule_size v_X_rule_place v_X_rule_fault v_X_rule_isStale a_X_rule_row v_X_day_isStale a_X_day_talkers a_X_day_clocks0 a_X_day_clocks1 a_X_rule_known a_X_rule_stack).bind fun v5 =>
    if x1 = (-1) then (
      g_X10_paid_52 N_X_now_rule_cells N_X_now_talks_cells N_X_now_people_cells N_X_now_dues_cells v_X_now_dues_width v_X_now_dues_size v_X_now_rule_width v_X_now_rule_size a_X_now_rule_cells v_X_now_talks_width v_X_now_talks_size a_X_now_talks_cells v_X_now_people_width v_X_now_people_size a_X_now_people_cells a_X_now_settings a_X_now_dues_cells x1 zF 0 0 v5.1 v5.2.1 v5.2.2.1 v5.2.2.2.1 v5.2.2.2.2.1 v5.2.2.2.2.2.1 v5.2.2.2.2.2.2.1 v5.2.2.2.2.2.2.2.1 v5.2.2.2.2.2.2.2.2.1 v5.2.2.2.2.2.2.2.2.2.1 v5.2.2.2.2.2.2.2.2.2.2 a_X_refusals
    ) else (
      (g_X10_isPaid N_X_now_dues_cells v_X_now_dues_width v_X_now_dues_size a_X_now_dues_cells v5.2.2.2.2.2.2.2.1 v5.2.2.2.2.2.2.2.2.1 x1).bind fun v13 =>
      if v13 = 0 then (
        some (0, v5.1, v5.2.1, v5.2.2.1, v5.2.2.2.1, v5.2.2.2.2.1, v5.2.2.2.2.2.1, v5.2.2.2.2.2.2.1, v5.2.2.2.2.2.2.2.1, v5.2.2.2.2.2.2.2.2.1, v5.2.2.2.2.2.2.2.2.2.1, v5.2.2.2.2.2.2.2.2.2.2, a_X_refusals)
      ) else (
        some (1, v5.1, v5.2.1, v5.2.2.1, v5.2.2.2.1, v5.2.2.2.2.1, v5.2.2.2.2.2.1, v5.2.2.2.2.2.2.1, v5.2.2.2.2.2.2.2.1, v5.2.2.2.2.2.2.2.2.1, v5.2.2.2.2.2.2.2.2.2.1, v5.2.2.2.2.2.2.2.2.2.2, a_X_refusals)
      )
    )
  )
theorem hd_X10_paid : yX10_paid.cls = RX10 ∧ yX10_paid.cls ≠ "java/lang/invoke/MethodHandle" ∧ yX10_paid.cls ≠ "java/lang/invoke/VarHandle" ∧ (parseMethodDescriptor yX10_paid.desc).map (fun d => d.parameters.length) = some 1 := by decide +kernel
set_option maxHeartbeats 4000000 in
set_option maxRecDepth 100000 in
theorem c_X10_paid (l : Launch) (D : va_G) (cI cJ cZ cA : ClassId) (ga : Nat → Nat) (q_X q_X_now q_X_now_dues q_X_rule q_X_now_rule q_X_now_rule_cells q_X_rule_row q_X_day q_X_day_talkers q_X_now_talks q_X_now_talks_cells q_X_now_people q_X_day_clocks q_X_day_clocks0 q_X_day_clocks1 q_X_now_people_cells q_X_now_settings q_X_rule_known q_X_rule_stack q_X_now_dues_cells q_X_refusals : Nat) (u_X_draft : Value) (u_X_text : Value) (u_X_reader : Value) (u_X_plan : Value) (u_X_guess : Value) (u_X_quarrel : Value) (u_X_fraction : Value) (u_X_firstImage : Value) (u_X_secondImage : Value) (u_X_kept : Value) (u_X_now_sights : Value) (u_X_now_stake : Value) (u_X_now_dues_limit : Value) (u_X_now_rule_limit : Value) (u_X_now_talks_limit : Value) (u_X_now_people_limit : Value) (N_X_now_rule_cells : Nat) (N_X_now_talks_cells : Nat) (N_X_now_people_cells : Nat) (N_X_now_dues_cells : Nat) (v_X_now_dues_width : Int32) (v_X_now_dues_size : Int32) (v_X_rule_size : Int32) (v_X_rule_place : Int32) (v_X_rule_fault : Int32) (v_X_rule_isStale : Int32) (v_X_now_rule_width : Int32) (v_X_now_rule_size : Int32) (a_X_now_rule_cells : Nat → Int32) (a_X_rule_row : Nat → Int32) (v_X_day_isStale : Int32) (a_X_day_talkers : Nat → Int32) (v_X_now_talks_width : Int32) (v_X_now_talks_size : Int32) (a_X_now_talks_cells : Nat → Int32) (v_X_now_people_width : Int32) (v_X_now_people_size : Int32) (a_X_day_clocks0 : Nat → Int32) (a_X_day_clocks1 : Nat → Int32) (a_X_now_people_cells : Nat → Int32) (a_X_now_settings : Nat → Int32) (a_X_rule_known : Nat → Int32) (a_X_rule_stack : Nat → Int64) (a_X_now_dues_cells : Nat → Int32) (a_X_refusals : Nat → Int32) (x1 : Int32) (o : Int32 × Int32 × Int32 × Int32 × Int32 × (Nat → Int32) × Int32 × (Nat → Int32) × (Nat → Int32) × (Nat → Int32) × (Nat → Int32) × (Nat → Int64) × (Nat → Int32)) (hg : g_X10_paid N_X_now_rule_cells N_X_now_talks_cells N_X_now_people_cells N_X_now_dues_cells v_X_now_dues_width v_X_now_dues_size v_X_now_rule_width v_X_now_rule_size a_X_now_rule_cells v_X_now_talks_width v_X_now_talks_size a_X_now_talks_cells v_X_now_people_width v_X_now_people_size a_X_now_people_cells a_X_now_settings a_X_now_dues_cells x1 v_X_rule_size v_X_rule_place v_X_rule_fault v_X_rule_isStale a_X_rule_row v_X_day_isStale a_X_day_talkers a_X_day_clocks0 a_X_day_clocks1 a_X_rule_known a_X_rule_stack a_X_refusals = some o) : zM l yX10_paid (Cond.code yX10_paid cX10_paid 4 (some .int) :: wsL_law) rm_X10_paid D (zTy cI cJ cZ cA) ga [.ref q_X, .int x1] (ws_X10_paid cI cJ cZ cA q_X q_X_now q_X_now_dues q_X_rule q_X_now_rule q_X_now_rule_cells q_X_rule_row q_X_day q_X_day_talkers q_X_now_talks q_X_now_talks_cells q_X_now_people q_X_day_clocks q_X_day_clocks0 q_X_day_clocks1 q_X_now_people_cells q_X_now_settings q_X_rule_known q_X_rule_stack q_X_now_dues_cells q_X_refusals u_X_draft u_X_text u_X_reader u_X_plan u_X_guess u_X_quarrel u_X_fraction u_X_firstImage u_X_secondImage u_X_kept u_X_now_sights u_X_now_stake u_X_now_dues_limit u_X_now_rule_limit u_X_now_talks_limit u_X_now_people_limit N_X_now_rule_cells N_X_now_talks_cells N_X_now_people_cells N_X_now_dues_cells v_X_now_dues_width v_X_now_dues_size v_X_rule_size v_X_rule_place v_X_rule_fault v_X_rule_isStale v_X_now_rule_width v_X_now_rule_size a_X_now_rule_cells a_X_rule_row v_X_day_isStale a_X_day_talkers v_X_now_talks_width v_X_now_talks_size a_X_now_talks_cells v_X_now_people_width v_X_now_people_size a_X_day_clocks0 a_X_day_clocks1 a_X_now_people_cells a_X_now_settings a_X_rule_known a_X_rule_stack a_X_now_dues_cells a_X_refusals) (ws_X10_paid cI cJ cZ cA q_X q_X_now q_X_now_dues q_X_rule q_X_now_rule q_X_now_rule_cells q_X_rule_row q_X_day q_X_day_talkers q_X_now_talks q_X_now_talks_cells q_X_now_people q_X_day_clocks q_X_day_clocks0 q_X_day_clocks1 q_X_now_people_cells q_X_now_settings q_X_rule_known q_X_rule_stack q_X_now_dues_cells q_X_refusals u_X_draft u_X_text u_X_reader u_X_plan u_X_guess u_X_quarrel u_X_fraction u_X_firstImage u_X_secondImage u_X_kept u_X_now_sights u_X_now_stake u_X_now_dues_limit u_X_now_rule_limit u_X_now_talks_limit u_X_now_people_limit N_X_now_rule_cells N_X_now_talks_cells N_X_now_people_cells N_X_now_dues_cells v_X_now_dues_width v_X_now_dues_size o.2.1 o.2.2.1 o.2.2.2.1 o.2.2.2.2.1 v_X_now_rule_width v_X_now_rule_size a_X_now_rule_cells o.2.2.2.2.2.1 o.2.2.2.2.2.2.1 o.2.2.2.2.2.2.2.1 v_X_now_talks_width v_X_now_talks_size a_X_now_talks_cells v_X_now_people_width v_X_now_people_size o.2.2.2.2.2.2.2.2.1 o.2.2.2.2.2.2.2.2.2.1 a_X_now_people_cells a_X_now_settings o.2.2.2.2.2.2.2.2.2.2.1 o.2.2.2.2.2.2.2.2.2.2.2.1 a_X_now_dues_cells o.2.2.2.2.2.2.2.2.2.2.2.2) (some (.int o.1)) := by
  refine zenterI (own := RX10) (by decide) rfl rfl (Nat.le_of_ble_eq_true rfl) ?_
  intro p e s m args below meth c A ls Q S hA hK hG hl hP hD hS hret0
  have hx := S.1
  have hb := S.2.1
  have ht : ∀ w, w ∈ wsL_law → w.before args s = true := fun w h => S.2.2.2.2 w (List.mem_cons_of_mem _ h)
  have hret : ∀ (r9 : Int32) (v_X_rule_size : Int32) (v_X_rule_place : Int32) (v_X_rule_fault : Int32) (v_X_rule_isStale : Int32) (a_X_rule_row : Nat → Int32) (v_X_day_isStale : Int32) (a_X_day_talkers : Nat → Int32) (a_X_day_clocks0 : Nat → Int32) (a_X_day_clocks1 : Nat → Int32) (a_X_rule_known : Nat → Int32) (a_X_rule_stack : Nat → Int64) (a_X_refusals : Nat → Int32), (some (r9, v_X_rule_size, v_X_rule_place, v_X_rule_fault, v_X_rule_isStale, a_X_rule_row, v_X_day_isStale, a_X_day_talkers, a_X_day_clocks0, a_X_day_clocks1, a_X_rule_known, a_X_rule_stack, a_X_refusals) : Option (Int32 × Int32 × Int32 × Int32 × Int32 × (Nat → Int32) × Int32 × (Nat → Int32) × (Nat → Int32) × (Nat → Int32) × (Nat → Int32) × (Nat → Int64) × (Nat → Int32))) = some o → ∀ (H : Heap) (locs : List Loc) (pc : Nat) (ls : Array Slot), va_P D vwCl (ws_X10_paid cI cJ cZ cA q_X q_X_now q_X_now_dues q_X_rule q_X_now_rule q_X_now_rule_cells q_X_rule_row q_X_day q_X_day_talkers q_X_now_talks q_X_now_talks_cells q_X_now_people q_X_day_clocks q_X_day_clocks0 q_X_day_clocks1 q_X_now_people_cells q_X_now_settings q_X_rule_known q_X_rule_stack q_X_now_dues_cells q_X_refusals u_X_draft u_X_text u_X_reader u_X_plan u_X_guess u_X_quarrel u_X_fraction u_X_firstImage u_X_secondImage u_X_kept u_X_now_sights u_X_now_stake u_X_now_dues_limit u_X_now_rule_limit u_X_now_talks_limit u_X_now_people_limit N_X_now_rule_cells N_X_now_talks_cells N_X_now_people_cells N_X_now_dues_cells v_X_now_dues_width v_X_now_dues_size v_X_rule_size v_X_rule_place v_X_rule_fault v_X_rule_isStale v_X_now_rule_width v_X_now_rule_size a_X_now_rule_cells a_X_rule_row v_X_day_isStale a_X_day_talkers v_X_now_talks_width v_X_now_talks_size a_X_now_talks_cells v_X_now_people_width v_X_now_people_size a_X_day_clocks0 a_X_day_clocks1 a_X_now_people_cells a_X_now_settings a_X_rule_known a_X_rule_stack a_X_now_dues_cells a_X_refusals) H → va_S A s.heap H locs → decode cX10_paid pc = .ok (.ireturn, 1) → W p l e rm_X10_paid s m args below meth c H locs 0 0 Q (F0 m pc ls [.int r9]) := by
    intro r9 v_X_rule_size v_X_rule_place v_X_rule_fault v_X_rule_isStale a_X_rule_row v_X_day_isStale a_X_day_talkers a_X_day_clocks0 a_X_day_clocks1 a_X_rule_known a_X_rule_stack a_X_refusals he; cases he; exact hret0
  have hl : lv_has ls 4 [(0, .ref q_X), (1, .int x1)] := hl
  have B89 : ∀ (k52 : Int32 → Int32 → Int32 → Int32 → Int32 → Int32 → (Nat → Int32) → Int32 → (Nat → Int32) → (Nat → Int32) → (Nat → Int32) → (Nat → Int32) → (Nat → Int64) → (Nat → Int32) → Option (Int32 × Int32 × Int32 × Int32 × Int32 × (Nat → Int32) × Int32 × (Nat → Int32) × (Nat → Int32) × (Nat → Int32) × (Nat → Int32) × (Nat → Int64) × (Nat → Int32))) (hk52 : ∀ (x2 : Int32) (x3 : Int32) (v_X_rule_size : Int32) (v_X_rule_place : Int32) (v_X_rule_fault : Int32) (v_X_rule_isStale : Int32) (a_X_rule_row : Nat → Int32) (v_X_day_isStale : Int32) (a_X_day_talkers : Nat → Int32) (a_X_day_clocks0 : Nat → Int32) (a_X_day_clocks1 : Nat → Int32) (a_X_rule_known : Nat → Int32) (a_X_rule_stack : Nat → Int64) (a_X_refusals : Nat → Int32) (H : Heap) (locs : List Loc) (ls : Array Slot) (hl : lv_has ls 4 [(0, .ref q_X), (2, .int x2), (3, .int x3)]) (hP : va_P D vwCl (ws_X10_paid cI cJ cZ cA q_X q_X_now q_X_now_dues q_X_rule q_X_now_rule q_X_now_rule_cells q_X_rule_row q_X_day q_X_day_talkers q_X_now_talks q_X_now_talks_cells q_X_now_people q_X_day_clocks q_X_day_clocks0 q_X_day_clocks1 q_X_now_people_cells q_X_now_settings q_X_rule_known q_X_rule_stack q_X_now_dues_cells q_X_refusals u_X_draft u_X_text u_X_reader u_X_plan u_X_guess u_X_quarrel u_X_fraction u_X_firstImage u_X_secondImage u_X_kept u_X_now_sights u_X_now_stake u_X_now_dues_limit u_X_now_rule_limit u_X_now_talks_limit u_X_now_people_limit N_X_now_rule_cells N_X_now_talks_cells N_X_now_people_cells N_X_now_dues_cells v_X_now_dues_width v_X_now_dues_size v_X_rule_size v_X_rule_place v_X_rule_fault v_X_rule_isStale v_X_now_rule_width v_X_now_rule_size a_X_now_rule_cells a_X_rule_row v_X_day_isStale a_X_day_talkers v_X_now_talks_width v_X_now_talks_size a_X_now_talks_cells v_X_now_people_width v_X_now_people_size a_X_day_clocks0 a_X_day_clocks1 a_X_now_people_cells a_X_now_settings a_X_rule_known a_X_rule_stack a_X_now_dues_cells a_X_refusals) H) (hD : va_D A (ws_X10_paid cI cJ cZ cA q_X q_X_now q_X_now_dues q_X_rule q_X_now_rule q_X_now_rule_cells q_X_rule_row q_X_day q_X_day_talkers q_X_now_talks q_X_now_talks_cells q_X_now_people q_X_day_clocks q_X_day_clocks0 q_X_day_clocks1 q_X_now_people_cells q_X_now_settings q_X_rule_known q_X_rule_stack q_X_now_dues_cells q_X_refusals u_X_draft u_X_text u_X_reader u_X_plan u_X_guess u_X_quarrel u_X_fraction u_X_firstImage u_X_secondImage u_X_kept u_X_now_sights u_X_now_stake u_X_now_dues_limit u_X_now_rule_limit u_X_now_talks_limit u_X_now_people_limit N_X_now_rule_cells N_X_now_talks_cells N_X_now_people_cells N_X_now_dues_cells v_X_now_dues_width v_X_now_dues_size v_X_rule_size v_X_rule_place v_X_rule_fault v_X_rule_isStale v_X_now_rule_width v_X_now_rule_size a_X_now_rule_cells a_X_rule_row v_X_day_isStale a_X_day_talkers v_X_now_talks_width v_X_now_talks_size a_X_now_talks_cells v_X_now_people_width v_X_now_people_size a_X_day_clocks0 a_X_day_clocks1 a_X_now_people_cells a_X_now_settings a_X_rule_known a_X_rule_stack a_X_now_dues_cells a_X_refusals)) (hS : va_S A s.heap H locs), k52 x2 x3 v_X_rule_size v_X_rule_place v_X_rule_fault v_X_rule_isStale a_X_rule_row v_X_day_isStale a_X_day_talkers a_X_day_clocks0 a_X_day_clocks1 a_X_rule_known a_X_rule_stack a_X_refusals = some o → W p l e rm_X10_paid s m args below meth c H locs 0 0 Q (F0 m 52 ls [])) (x2 : Int32) (x3 : Int32) (v_X_rule_size : Int32) (v_X_rule_place : Int32) (v_X_rule_fault : Int32) (v_X_rule_isStale : Int32) (a_X_rule_row : Nat → Int32) (v_X_day_isStale : Int32) (a_X_day_talkers : Nat → Int32) (a_X_day_clocks0 : Nat → Int32) (a_X_day_clocks1 : Nat → Int32) (a_X_rule_known : Nat → Int32) (a_X_rule_stack : Nat → Int64) (a_X_refusals : Nat → Int32) (H : Heap) (locs : List Loc) (ls : Array Slot) (hl : lv_has ls 4 [(0, .ref q_X), (2, .int x2), (3, .int x3)]) (hP : va_P D vwCl (ws_X10_paid cI cJ cZ cA q_X q_X_now q_X_now_dues q_X_rule q_X_now_rule q_X_now_rule_cells q_X_rule_row q_X_day q_X_day_talkers q_X_now_talks q_X_now_talks_cells q_X_now_people q_X_day_clocks q_X_day_clocks0 q_X_day_clocks1 q_X_now_people_cells q_X_now_settings q_X_rule_known q_X_rule_stack q_X_now_dues_cells q_X_refusals u_X_draft u_X_text u_X_reader u_X_plan u_X_guess u_X_quarrel u_X_fraction u_X_firstImage u_X_secondImage u_X_kept u_X_now_sights u_X_now_stake u_X_now_dues_limit u_X_now_rule_limit u_X_now_talks_limit u_X_now_people_limit N_X_now_rule_cells N_X_now_talks_cells N_X_now_people_cells N_X_now_dues_cells v_X_now_dues_width v_X_now_dues_size v_X_rule_size v_X_rule_place v_X_rule_fault v_X_rule_isStale v_X_now_rule_width v_X_now_rule_size a_X_now_rule_cells a_X_rule_row v_X_day_isStale a_X_day_talkers v_X_now_talks_width v_X_now_talks_size a_X_now_talks_cells v_X_now_people_width v_X_now_people_size a_X_day_clocks0 a_X_day_clocks1 a_X_now_people_cells a_X_now_settings a_X_rule_known a_X_rule_stack a_X_now_dues_cells a_X_refusals) H) (hD : va_D A (ws_X10_paid cI cJ cZ cA q_X q_X_now q_X_now_dues q_X_rule q_X_now_rule q_X_now_rule_cells q_X_rule_row q_X_day q_X_day_talkers q_X_now_talks q_X_now_talks_cells q_X_now_people q_X_day_clocks q_X_day_clocks0 q_X_day_clocks1 q_X_now_people_cells q_X_now_settings q_X_rule_known q_X_rule_stack q_X_now_dues_cells q_X_refusals u_X_draft u_X_text u_X_reader u_X_plan u_X_guess u_X_quarrel u_X_fraction u_X_firstImage u_X_secondImage u_X_kept u_X_now_sights u_X_now_stake u_X_now_dues_limit u_X_now_rule_limit u_X_now_talks_limit u_X_now_people_limit N_X_now_rule_cells N_X_now_talks_cells N_X_now_people_cells N_X_now_dues_cells v_X_now_dues_width v_X_now_dues_size v_X_rule_size v_X_rule_place v_X_rule_fault v_X_rule_isStale v_X_now_rule_width v_X_now_rule_size a_X_now_rule_cells a_X_rule_row v_X_day_isStale a_X_day_talkers v_X_now_talks_width v_X_now_talks_size a_X_now_talks_cells v_X_now_people_width v_X_now_people_size a_X_day_clocks0 a_X_day_clocks1 a_X_now_people_cells a_X_now_settings a_X_rule_known a_X_rule_stack a_X_now_dues_cells a_X_refusals)) (hS : va_S A s.heap H locs), g_X10_paid_89 N_X_now_rule_cells N_X_now_talks_cells N_X_now_people_cells N_X_now_dues_cells v_X_now_dues_width v_X_now_dues_size v_X_now_rule_width v_X_now_rule_size a_X_now_rule_cells v_X_now_talks_width v_X_now_talks_size a_X_now_talks_cells v_X_now_people_width v_X_now_people_size a_X_now_people_cells a_X_now_settings a_X_now_dues_cells x1 k52 x2 x3 v_X_rule_size v_X_rule_place v_X_rule_fault v_X_rule_isStale a_X_rule_row v_X_day_isStale a_X_day_talkers a_X_day_clocks0 a_X_day_clocks1 a_X_rule_known a_X_rule_stack a_X_refusals = some o → W p l e rm_X10_paid s m args below meth c H locs 0 0 Q (F0 m 89 ls []) := by
    intro k52 hk52 x2 x3 v_X_rule_size v_X_rule_place v_X_rule_fault v_X_rule_isStale a_X_rule_row v_X_day_isStale a_X_day_talkers a_X_day_clocks0 a_X_day_clocks1 a_X_rule_known a_X_rule_stack a_X_refusals H locs ls hl hP hD hS hg
    refine lv_iinc (k := 2) (v := x3 + 1) (lv' := [(3, .int (x3 + 1)), (0, .ref q_X), (2, .int x2)]) hx hb dX10_paid_89 hl rfl (zinc (by decide)) (by decide) rfl (fun ls hl => ?_)
    refine lv_goto (tgt := 52) hx hb dX10_paid_92 (by decide) ?_
    exact hk52 x2 (x3 + 1) v_X_rule_size v_X_rule_place v_X_rule_fault v_X_rule_isStale a_X_rule_row v_X_day_isStale a_X_day_talkers a_X_day_clocks0 a_X_day_clocks1 a_X_rule_known a_X_rule_stack a_X_refusals _ _ _ (lv_sub hl [1, 2, 0] rfl) hP hD hS hg
  have B52 : ∀  (n : Nat) (x2 : Int32) (x3 : Int32) (v_X_rule_size : Int32) (v_X_rule_place : Int32) (v_X_rule_fault : Int32) (v_X_rule_isStale : Int32) (a_X_rule_row : Nat → Int32) (v_X_day_isStale : Int32) (a_X_day_talkers : Nat → Int32) (a_X_day_clocks0 : Nat → Int32) (a_X_day_clocks1 : Nat → Int32) (a_X_rule_known : Nat → Int32) (a_X_rule_stack : Nat → Int64) (a_X_refusals : Nat → Int32) (H : Heap) (locs : List Loc) (ls : Array Slot) (hl : lv_has ls 4 [(0, .ref q_X), (2, .int x2), (3, .int x3)]) (hP : va_P D vwCl (ws_X10_paid cI cJ cZ cA q_X q_X_now q_X_now_dues q_X_rule q_X_now_rule q_X_now_rule_cells q_X_rule_row q_X_day q_X_day_talkers q_X_now_talks q_X_now_talks_cells q_X_now_people q_X_day_clocks q_X_day_clocks0 q_X_day_clocks1 q_X_now_people_cells q_X_now_settings q_X_rule_known q_X_rule_stack q_X_now_dues_cells q_X_refusals u_X_draft u_X_text u_X_reader u_X_plan u_X_guess u_X_quarrel u_X_fraction u_X_firstImage u_X_secondImage u_X_kept u_X_now_sights u_X_now_stake u_X_now_dues_limit u_X_now_rule_limit u_X_now_talks_limit u_X_now_people_limit N_X_now_rule_cells N_X_now_talks_cells N_X_now_people_cells N_X_now_dues_cells v_X_now_dues_width v_X_now_dues_size v_X_rule_size v_X_rule_place v_X_rule_fault v_X_rule_isStale v_X_now_rule_width v_X_now_rule_size a_X_now_rule_cells a_X_rule_row v_X_day_isStale a_X_day_talkers v_X_now_talks_width v_X_now_talks_size a_X_now_talks_cells v_X_now_people_width v_X_now_people_size a_X_day_clocks0 a_X_day_clocks1 a_X_now_people_cells a_X_now_settings a_X_rule_known a_X_rule_stack a_X_now_dues_cells a_X_refusals) H) (hD : va_D A (ws_X10_paid cI cJ cZ cA q_X q_X_now q_X_now_dues q_X_rule q_X_now_rule q_X_now_rule_cells q_X_rule_row q_X_day q_X_day_talkers q_X_now_talks q_X_now_talks_cells q_X_now_people q_X_day_clocks q_X_day_clocks0 q_X_day_clocks1 q_X_now_people_cells q_X_now_settings q_X_rule_known q_X_rule_stack q_X_now_dues_cells q_X_refusals u_X_draft u_X_text u_X_reader u_X_plan u_X_guess u_X_quarrel u_X_fraction u_X_firstImage u_X_secondImage u_X_kept u_X_now_sights u_X_now_stake u_X_now_dues_limit u_X_now_rule_limit u_X_now_talks_limit u_X_now_people_limit N_X_now_rule_cells N_X_now_talks_cells N_X_now_people_cells N_X_now_dues_cells v_X_now_dues_width v_X_now_dues_size v_X_rule_size v_X_rule_place v_X_rule_fault v_X_rule_isStale v_X_now_rule_width v_X_now_rule_size a_X_now_rule_cells a_X_rule_row v_X_day_isStale a_X_day_talkers v_X_now_talks_width v_X_now_talks_size a_X_now_talks_cells v_X_now_people_width v_X_now_people_size a_X_day_clocks0 a_X_day_clocks1 a_X_now_people_cells a_X_now_settings a_X_rule_known a_X_rule_stack a_X_now_dues_cells a_X_refusals)) (hS : va_S A s.heap H locs), g_X10_paid_52 N_X_now_rule_cells N_X_now_talks_cells N_X_now_people_cells N_X_now_dues_cells v_X_now_dues_width v_X_now_dues_size v_X_now_rule_width v_X_now_rule_size a_X_now_rule_cells v_X_now_talks_width v_X_now_talks_size a_X_now_talks_cells v_X_now_people_width v_X_now_people_size a_X_now_people_cells a_X_now_settings a_X_now_dues_cells x1 n x2 x3 v_X_rule_size v_X_rule_place v_X_rule_fault v_X_rule_isStale a_X_rule_row v_X_day_isStale a_X_day_talkers a_X_day_clocks0 a_X_day_clocks1 a_X_rule_known a_X_rule_stack a_X_refusals = some o → W p l e rm_X10_paid s m args below meth c H locs 0 0 Q (F0 m 52 ls []) := by
    intro  n
    induction n with
    | zero => intro x2 x3 v_X_rule_size v_X_rule_place v_X_rule_fault v_X_rule_isStale a_X_rule_row v_X_day_isStale a_X_day_talkers a_X_day_clocks0 a_X_day_clocks1 a_X_rule_known a_X_rule_stack a_X_refusals H locs ls hl hP hD hS hg; exact nomatch (show (none : Option (Int32 × Int32 × Int32 × Int32 × Int32 × (Nat → Int32) × Int32 × (Nat → Int32) × (Nat → Int32) × (Nat → Int32) × (Nat → Int32) × (Nat → Int64) × (Nat → Int32))) = some o from hg)
    | succ n ih =>
      intro x2 x3 v_X_rule_size v_X_rule_place v_X_rule_fault v_X_rule_isStale a_X_rule_row v_X_day_isStale a_X_day_talkers a_X_day_clocks0 a_X_day_clocks1 a_X_rule_known a_X_rule_stack a_X_refusals H locs ls hl hP hD hS hg
      have hg : g_X10_paid_52b N_X_now_rule_cells N_X_now_talks_cells N_X_now_people_cells N_X_now_dues_cells v_X_now_dues_width v_X_now_dues_size v_X_now_rule_width v_X_now_rule_size a_X_now_rule_cells v_X_now_talks_width v_X_now_talks_size a_X_now_talks_cells v_X_now_people_width v_X_now_people_size a_X_now_people_cells a_X_now_settings a_X_now_dues_cells x1 (g_X10_paid_52 N_X_now_rule_cells N_X_now_talks_cells N_X_now_people_cells N_X_now_dues_cells v_X_now_dues_width v_X_now_dues_size v_X_now_rule_width v_X_now_rule_size a_X_now_rule_cells v_X_now_talks_width v_X_now_talks_size a_X_now_talks_cells v_X_now_people_width v_X_now_people_size a_X_now_people_cells a_X_now_settings a_X_now_dues_cells x1 n) x2 x3 v_X_rule_size v_X_rule_place v_X_rule_fault v_X_rule_isStale a_X_rule_row v_X_day_isStale a_X_day_talkers a_X_day_clocks0 a_X_day_clocks1 a_X_rule_known a_X_rule_stack a_X_refusals = some o := hg
      refine lv_iload_n hx hb dX10_paid_52 rfl (lv_at hl 2 rfl) ?_
      refine lv_aload_n hx hb dX10_paid_53 rfl (lv_at hl 0 rfl) ?_
      refine zget (C := RX10) (T := TX10) (N := 14) S hK hP 0 rfl rfl 0 (Nat.le_of_ble_eq_true rfl) zf_10 zw_51 rfl dX10_paid_54 ?_
      refine zget (C := RX9) (T := TX9) (N := 7) S hK hP 1 rfl rfl 2 (Nat.le_of_ble_eq_true rfl) zf_9 zw_755 rfl dX10_paid_57 ?_
      obtain ⟨v7, hc8, hg⟩ := zbd hg
      refine zcallV (rest := [.int x3]) S (c_X7_size l D cI cJ cZ cA ga q_X_now_dues (.int v_X_now_dues_width) u_X_now_dues_limit (.ref q_X_now_dues_cells) v_X_now_dues_size v7 hc8) (zgV zw_298 zw_180 zw_181 zw_32 zw_182) rfl hd_X7_size ⟨rfl, rfl⟩ ⟨Nat.le_of_ble_eq_true rfl, Nat.le_of_ble_eq_true rfl⟩ 2 7 rfl rfl rfl hl.1 rfl (Nat.le_of_ble_eq_true rfl) dX10_paid_60 hP hD hS hA hK hG (isC := [2]) rfl (by decide +kernel) rfl ⟨Nat.zero_le _, Nat.zero_le _⟩ (pl := [none, none, some 0, none, none, none, none, none, none, none, none, none, none, none, none, none, none, none, none, none, none]) (nw := 21) rfl (by decide +kernel) (w2 := (ws_X10_paid cI cJ cZ cA q_X q_X_now q_X_now_dues q_X_rule q_X_now_rule q_X_now_rule_cells q_X_rule_row q_X_day q_X_day_talkers q_X_now_talks q_X_now_talks_cells q_X_now_people q_X_day_clocks q_X_day_clocks0 q_X_day_clocks1 q_X_now_people_cells q_X_now_settings q_X_rule_known q_X_rule_stack q_X_now_dues_cells q_X_refusals u_X_draft u_X_text u_X_reader u_X_plan u_X_guess u_X_quarrel u_X_fraction u_X_firstImage u_X_secondImage u_X_kept u_X_now_sights u_X_now_stake u_X_now_dues_limit u_X_now_rule_limit u_X_now_talks_limit u_X_now_people_limit N_X_now_rule_cells N_X_now_talks_cells N_X_now_people_cells N_X_now_dues_cells v_X_now_dues_width v_X_now_dues_size v_X_rule_size v_X_rule_place v_X_rule_fault v_X_rule_isStale v_X_now_rule_width v_X_now_rule_size a_X_now_rule_cells a_X_rule_row v_X_day_isStale a_X_day_talkers v_X_now_talks_width v_X_now_talks_size a_X_now_talks_cells v_X_now_people_width v_X_now_people_size a_X_day_clocks0 a_X_day_clocks1 a_X_now_people_cells a_X_now_settings a_X_rule_known a_X_rule_stack a_X_now_dues_cells a_X_refusals)) rfl (st1 := [.int v7, .int x3]) rfl (fun H locs hP hD hS => ?_)
      refine lv_icmp_ge (tgt := 95) hx hb dX10_paid_63 (by decide) (fun h63 => ?_) (fun h63 => ?_)
      · have hg := zp hg h63
        refine lv_iload_n hx hb dX10_paid_95 rfl (lv_at hl 1 rfl) ?_
        exact hret x2 v_X_rule_size v_X_rule_place v_X_rule_fault v_X_rule_isStale a_X_rule_row v_X_day_isStale a_X_day_talkers a_X_day_clocks0 a_X_day_clocks1 a_X_rule_known a_X_rule_stack a_X_refusals hg _ _ _ _ hP hS dX10_paid_96
      · have hg := zn hg h63
        refine lv_aload_n hx hb dX10_paid_66 rfl (lv_at hl 0 rfl) ?_
        refine lv_iload_n hx hb dX10_paid_67 rfl (lv_at hl 2 rfl) ?_
        obtain ⟨v9, hc10, hg⟩ := zbd hg
        refine zcallV (rest := []) S (c_X10_isPaid l D cI cJ cZ cA ga q_X q_X_day q_X_now q_X_now_dues q_X_now_dues_cells q_X_day_clocks q_X_day_clocks0 q_X_day_clocks1 u_X_draft u_X_text u_X_reader (.ref q_X_rule) u_X_plan u_X_guess u_X_quarrel u_X_fraction u_X_firstImage u_X_secondImage u_X_kept (.ref q_X_refusals) (.ref q_X_now_people) (.ref q_X_now_talks) u_X_now_sights (.ref q_X_now_rule) (.ref q_X_now_settings) u_X_now_stake u_X_now_dues_limit (.ref q_X_rule) (.ref q_X_day_talkers) (.int v_X_day_isStale) N_X_now_dues_cells v_X_now_dues_width v_X_now_dues_size a_X_now_dues_cells a_X_day_clocks0 a_X_day_clocks1 x3 v9 hc10) (zgV zw_760 zw_761 zw_762 zw_2 zw_763) rfl hd_X10_isPaid ⟨rfl, rfl⟩ ⟨Nat.le_of_ble_eq_true rfl, Nat.le_of_ble_eq_true rfl⟩ 0 10 rfl rfl rfl hl.1 rfl (Nat.le_of_ble_eq_true rfl) dX10_paid_68 hP hD hS hA hK hG (isC := [0, 1, 2, 19, 7, 12, 13, 14]) rfl (by decide +kernel) rfl ⟨Nat.zero_le _, Nat.zero_le _⟩ (pl := [some 0, some 1, some 2, none, none, none, none, some 4, none, none, none, none, some 5, some 6, some 7, none, none, none, none, some 3, none]) (nw := 21) rfl (by decide +kernel) (w2 := (ws_X10_paid cI cJ cZ cA q_X q_X_now q_X_now_dues q_X_rule q_X_now_rule q_X_now_rule_cells q_X_rule_row q_X_day q_X_day_talkers q_X_now_talks q_X_now_talks_cells q_X_now_people q_X_day_clocks q_X_day_clocks0 q_X_day_clocks1 q_X_now_people_cells q_X_now_settings q_X_rule_known q_X_rule_stack q_X_now_dues_cells q_X_refusals u_X_draft u_X_text u_X_reader u_X_plan u_X_guess u_X_quarrel u_X_fraction u_X_firstImage u_X_secondImage u_X_kept u_X_now_sights u_X_now_stake u_X_now_dues_limit u_X_now_rule_limit u_X_now_talks_limit u_X_now_people_limit N_X_now_rule_cells N_X_now_talks_cells N_X_now_people_cells N_X_now_dues_cells v_X_now_dues_width v_X_now_dues_size v_X_rule_size v_X_rule_place v_X_rule_fault v_X_rule_isStale v_X_now_rule_width v_X_now_rule_size a_X_now_rule_cells a_X_rule_row v_X_day_isStale a_X_day_talkers v_X_now_talks_width v_X_now_talks_size a_X_now_talks_cells v_X_now_people_width v_X_now_people_size a_X_day_clocks0 a_X_day_clocks1 a_X_now_people_cells a_X_now_settings a_X_rule_known a_X_rule_stack a_X_now_dues_cells a_X_refusals)) rfl (st1 := [.int v9]) rfl (fun H locs hP hD hS => ?_)
        refine lv_if_eq (tgt := 89) hx hb dX10_paid_71 (by decide) (fun h71 => ?_) (fun h71 => ?_)
        · have hg := zp hg h71
          exact B89 (g_X10_paid_52 N_X_now_rule_cells N_X_now_talks_cells N_X_now_people_cells N_X_now_dues_cells v_X_now_dues_width v_X_now_dues_size v_X_now_rule_width v_X_now_rule_size a_X_now_rule_cells v_X_now_talks_width v_X_now_talks_size a_X_now_talks_cells v_X_now_people_width v_X_now_people_size a_X_now_people_cells a_X_now_settings a_X_now_dues_cells x1 n) ih x2 x3 v_X_rule_size v_X_rule_place v_X_rule_fault v_X_rule_isStale a_X_rule_row v_X_day_isStale a_X_day_talkers a_X_day_clocks0 a_X_day_clocks1 a_X_rule_known a_X_rule_stack a_X_refusals _ _ _ hl hP hD hS hg
        · have hg := zn hg h71
          refine lv_iload_n hx hb dX10_paid_74 rfl (lv_at hl 1 rfl) ?_
          refine lv_aload_n hx hb dX10_paid_75 rfl (lv_at hl 0 rfl) ?_
          refine zget (C := RX10) (T := TX10) (N := 14) S hK hP 0 rfl rfl 0 (Nat.le_of_ble_eq_true rfl) zf_10 zw_51 rfl dX10_paid_76 ?_
          refine zget (C := RX9) (T := TX9) (N := 7) S hK hP 1 rfl rfl 2 (Nat.le_of_ble_eq_true rfl) zf_9 zw_755 rfl dX10_paid_79 ?_
          refine lv_iload_n hx hb dX10_paid_82 rfl (lv_at hl 2 rfl) ?_
          refine lv_iconst (v := 2) hx hb dX10_paid_83 (by decide) ?_
          obtain ⟨v11, hc12, hg⟩ := zbd hg
          refine zcallV (rest := [.int x2]) S (c_X7_at l D cI cJ cZ cA ga q_X_now_dues q_X_now_dues_cells u_X_now_dues_limit N_X_now_dues_cells v_X_now_dues_width v_X_now_dues_size a_X_now_dues_cells x3 2 v11 hc12) (zgV zw_764 zw_353 zw_354 zw_32 zw_355) rfl hd_X7_at ⟨rfl, rfl⟩ ⟨Nat.le_of_ble_eq_true rfl, Nat.le_of_ble_eq_true rfl⟩ 2 7 rfl rfl rfl hl.1 rfl (Nat.le_of_ble_eq_true rfl) dX10_paid_84 hP hD hS hA hK hG (isC := [2, 19]) rfl (by decide +kernel) rfl ⟨Nat.zero_le _, Nat.zero_le _⟩ (pl := [none, none, some 0, none, none, none, none, none, none, none, none, none, none, none, none, none, none, none, none, some 1, none]) (nw := 21) rfl (by decide +kernel) (w2 := (ws_X10_paid cI cJ cZ cA q_X q_X_now q_X_now_dues q_X_rule q_X_now_rule q_X_now_rule_cells q_X_rule_row q_X_day q_X_day_talkers q_X_now_talks q_X_now_talks_cells q_X_now_people q_X_day_clocks q_X_day_clocks0 q_X_day_clocks1 q_X_now_people_cells q_X_now_settings q_X_rule_known q_X_rule_stack q_X_now_dues_cells q_X_refusals u_X_draft u_X_text u_X_reader u_X_plan u_X_guess u_X_quarrel u_X_fraction u_X_firstImage u_X_secondImage u_X_kept u_X_now_sights u_X_now_stake u_X_now_dues_limit u_X_now_rule_limit u_X_now_talks_limit u_X_now_people_limit N_X_now_rule_cells N_X_now_talks_cells N_X_now_people_cells N_X_now_dues_cells v_X_now_dues_width v_X_now_dues_size v_X_rule_size v_X_rule_place v_X_rule_fault v_X_rule_isStale v_X_now_rule_width v_X_now_rule_size a_X_now_rule_cells a_X_rule_row v_X_day_isStale a_X_day_talkers v_X_now_talks_width v_X_now_talks_size a_X_now_talks_cells v_X_now_people_width v_X_now_people_size a_X_day_clocks0 a_X_day_clocks1 a_X_now_people_cells a_X_now_settings a_X_rule_known a_X_rule_stack a_X_now_dues_cells a_X_refusals)) rfl (st1 := [.int v11, .int x2]) rfl (fun H locs hP hD hS => ?_)
          refine lv_iadd hx hb dX10_paid_87 ?_
          refine lv_istore_n (lv' := [(2, .int (x2 + v11)), (0, .ref q_X), (3, .int x3)]) hx hb dX10_paid_88 rfl hl (by decide) rfl (fun ls hl => ?_)
          exact B89 (g_X10_paid_52 N_X_now_rule_cells N_X_now_talks_cells N_X_now_people_cells N_X_now_dues_cells v_X_now_dues_width v_X_now_dues_size v_X_now_rule_width v_X_now_rule_size a_X_now_rule_cells v_X_now_talks_width v_X_now_talks_size a_X_now_talks_cells v_X_now_people_width v_X_now_people_size a_X_now_people_cells a_X_now_settings a_X_now_dues_cells x1 n) ih (x2 + v11) x3 v_X_rule_size v_X_rule_place v_X_rule_fault v_X_rule_isStale a_X_rule_row v_X_day_isStale a_X_day_talkers a_X_day_clocks0 a_X_day_clocks1 a_X_rule_known a_X_rule_stack a_X_refusals _ _ _ (lv_sub hl [1, 0, 2] rfl) hP hD hS hg
  refine lv_iload_n hx hb dX10_paid_0 rfl (lv_at hl 1 rfl) ?_
  refine lv_iconst (v := (-1)) hx hb dX10_paid_1 (by decide) ?_
  refine lv_aload_n hx hb dX10_paid_2 rfl (lv_at hl 0 rfl) ?_
  refine zget (C := RX10) (T := TX10) (N := 14) S hK hP 0 rfl rfl 0 (Nat.le_of_ble_eq_true rfl) zf_10 zw_51 rfl dX10_paid_3 ?_
  refine zget (C := RX9) (T := TX9) (N := 7) S hK hP 1 rfl rfl 2 (Nat.le_of_ble_eq_true rfl) zf_9 zw_755 rfl dX10_paid_6 ?_
  obtain ⟨v1, hc2, hg⟩ := zbd hg
  refine zcallV (rest := [.int (-1), .int x1]) S (c_X7_size l D cI cJ cZ cA ga q_X_now_dues (.int v_X_now_dues_width) u_X_now_dues_limit (.ref q_X_now_dues_cells) v_X_now_dues_size v1 hc2) (zgV zw_298 zw_180 zw_181 zw_32 zw_182) rfl hd_X7_size ⟨rfl, rfl⟩ ⟨Nat.le_of_ble_eq_true rfl, Nat.le_of_ble_eq_true rfl⟩ 2 7 rfl rfl rfl hl.1 rfl (Nat.le_of_ble_eq_true rfl) dX10_paid_9 hP hD hS hA hK hG (isC := [2]) rfl (by decide +kernel) rfl ⟨Nat.zero_le _, Nat.zero_le _⟩ (pl := [none, none, some 0, none, none, none, none, none, none, none, none, none, none, none, none, none, none, none, none, none, none]) (nw := 21) rfl (by decide +kernel) (w2 := (ws_X10_paid cI cJ cZ cA q_X q_X_now q_X_now_dues q_X_rule q_X_now_rule q_X_now_rule_cells q_X_rule_row q_X_day q_X_day_talkers q_X_now_talks q_X_now_talks_cells q_X_now_people q_X_day_clocks q_X_day_clocks0 q_X_day_clocks1 q_X_now_people_cells q_X_now_settings q_X_rule_known q_X_rule_stack q_X_now_dues_cells q_X_refusals u_X_draft u_X_text u_X_reader u_X_plan u_X_guess u_X_quarrel u_X_fraction u_X_firstImage u_X_secondImage u_X_kept u_X_now_sights u_X_now_stake u_X_now_dues_limit u_X_now_rule_limit u_X_now_talks_limit u_X_now_people_limit N_X_now_rule_cells N_X_now_talks_cells N_X_now_people_cells N_X_now_dues_cells v_X_now_dues_width v_X_now_dues_size v_X_rule_size v_X_rule_place v_X_rule_fault v_X_rule_isStale v_X_now_rule_width v_X_now_rule_size a_X_now_rule_cells a_X_rule_row v_X_day_isStale a_X_day_talkers v_X_now_talks_width v_X_now_talks_size a_X_now_talks_cells v_X_now_people_width v_X_now_people_size a_X_day_clocks0 a_X_day_clocks1 a_X_now_people_cells a_X_now_settings a_X_rule_known a_X_rule_stack a_X_now_dues_cells a_X_refusals)) rfl (st1 := [.int v1, .int (-1), .int x1]) rfl (fun H locs hP hD hS => ?_)
  refine lv_iconst (v := 1) hx hb dX10_paid_12 (by decide) ?_
  refine lv_isub hx hb dX10_paid_13 ?_
  obtain ⟨v3, hc4, hg⟩ := zbd hg
  refine zcallS (rest := []) S (c_X10_isIn l D cI cJ cZ cA ga x1 (-1) (v1 - 1) v3 hc4) (zgS zw_188 zw_189 zw_2 zw_190) rfl hd_X10_isIn ⟨rfl, rfl⟩ ⟨Nat.le_of_ble_eq_true rfl, Nat.le_of_ble_eq_true rfl⟩ rfl hl.1 rfl (Nat.le_of_ble_eq_true rfl) dX10_paid_14 hP hD hS hA hK hG (isC := []) rfl (by decide +kernel) rfl ⟨Nat.zero_le _, Nat.zero_le _⟩ (pl := [none, none, none, none, none, none, none, none, none, none, none, none, none, none, none, none, none, none, none, none, none]) (nw := 21) rfl (by decide +kernel) (w2 := (ws_X10_paid cI cJ cZ cA q_X q_X_now q_X_now_dues q_X_rule q_X_now_rule q_X_now_rule_cells q_X_rule_row q_X_day q_X_day_talkers q_X_now_talks q_X_now_talks_cells q_X_now_people q_X_day_clocks q_X_day_clocks0 q_X_day_clocks1 q_X_now_people_cells q_X_now_settings q_X_rule_known q_X_rule_stack q_X_now_dues_cells q_X_refusals u_X_draft u_X_text u_X_reader u_X_plan u_X_guess u_X_quarrel u_X_fraction u_X_firstImage u_X_secondImage u_X_kept u_X_now_sights u_X_now_stake u_X_now_dues_limit u_X_now_rule_limit u_X_now_talks_limit u_X_now_people_limit N_X_now_rule_cells N_X_now_talks_cells N_X_now_people_cells N_X_now_dues_cells v_X_now_dues_width v_X_now_dues_size v_X_rule_size v_X_rule_place v_X_rule_fault v_X_rule_isStale v_X_now_rule_width v_X_now_rule_size a_X_now_rule_cells a_X_rule_row v_X_day_isStale a_X_day_talkers v_X_now_talks_width v_X_now_talks_size a_X_now_talks_cells v_X_now_people_width v_X_now_people_size a_X_day_clocks0 a_X_day_clocks1 a_X_now_people_cells a_X_now_settings a_X_rule_known a_X_rule_stack a_X_now_dues_cells a_X_refusals)) rfl (st1 := [.int v3]) rfl (fun H locs hP hD hS => ?_)
  refine lv_if_ne (tgt := 25) hx hb dX10_paid_17 (by decide) (fun h17 => ?_) (fun h17 => ?_)
  · have hg := zn hg h17
    refine lv_aload_n hx hb dX10_paid_25 rfl (lv_at hl 0 rfl) ?_
    obtain ⟨v5, hc6, hg⟩ := zbd hg
    refine zcallV (rest := []) S (c_X10_prepare l D cI cJ cZ cA ga q_X q_X_rule q_X_now q_X_now_rule q_X_now_rule_cells q_X_rule_row q_X_day q_X_day_talkers q_X_now_talks q_X_now_talks_cells q_X_now_people q_X_day_clocks q_X_day_clocks0 q_X_day_clocks1 q_X_now_people_cells q_X_now_settings q_X_rule_known q_X_rule_stack u_X_draft u_X_text u_X_reader u_X_plan u_X_guess u_X_quarrel u_X_fraction u_X_firstImage u_X_secondImage u_X_kept (.ref q_X_refusals) (.ref q_X_now_dues) u_X_now_sights u_X_now_stake u_X_now_rule_limit u_X_now_talks_limit u_X_now_people_limit N_X_now_rule_cells N_X_now_talks_cells N_X_now_people_cells v_X_rule_size v_X_rule_place v_X_rule_fault v_X_rule_isStale v_X_now_rule_width v_X_now_rule_size a_X_now_rule_cells a_X_rule_row v_X_day_isStale a_X_day_talkers v_X_now_talks_width v_X_now_talks_size a_X_now_talks_cells v_X_now_people_width v_X_now_people_size a_X_day_clocks0 a_X_day_clocks1 a_X_now_people_cells a_X_now_settings a_X_rule_known a_X_rule_stack v5 hc6) (zgV zw_623 zw_624 zw_625 zw_2 zw_626) rfl hd_X10_prepare ⟨rfl, rfl⟩ ⟨Nat.le_of_ble_eq_true rfl, Nat.le_of_ble_eq_true rfl⟩ 0 10 rfl rfl rfl hl.1 rfl (Nat.le_of_ble_eq_true rfl) dX10_paid_26 hP hD hS hA hK hG (isC := [0, 3, 1, 4, 5, 6, 7, 8, 9, 10, 11, 12, 13, 14, 15, 16, 17, 18]) rfl (by decide +kernel) rfl ⟨Nat.zero_le _, Nat.zero_le _⟩ (pl := [some 0, some 2, none, some 1, some 3, some 4, some 5, some 6, some 7, some 8, some 9, some 10, some 11, some 12, some 13, some 14, some 15, some 16, some 17, none, none]) (nw := 21) rfl (by decide +kernel) (w2 := (ws_X10_paid cI cJ cZ cA q_X q_X_now q_X_now_dues q_X_rule q_X_now_rule q_X_now_rule_cells q_X_rule_row q_X_day q_X_day_talkers q_X_now_talks q_X_now_talks_cells q_X_now_people q_X_day_clocks q_X_day_clocks0 q_X_day_clocks1 q_X_now_people_cells q_X_now_settings q_X_rule_known q_X_rule_stack q_X_now_dues_cells q_X_refusals u_X_draft u_X_text u_X_reader u_X_plan u_X_guess u_X_quarrel u_X_fraction u_X_firstImage u_X_secondImage u_X_kept u_X_now_sights u_X_now_stake u_X_now_dues_limit u_X_now_rule_limit u_X_now_talks_limit u_X_now_people_limit N_X_now_rule_cells N_X_now_talks_cells N_X_now_people_cells N_X_now_dues_cells v_X_now_dues_width v_X_now_dues_size v5.1 v5.2.1 v5.2.2.1 v5.2.2.2.1 v_X_now_rule_width v_X_now_rule_size a_X_now_rule_cells v5.2.2.2.2.1 v5.2.2.2.2.2.1 v5.2.2.2.2.2.2.1 v_X_now_talks_width v_X_now_talks_size a_X_now_talks_cells v_X_now_people_width v_X_now_people_size v5.2.2.2.2.2.2.2.1 v5.2.2.2.2.2.2.2.2.1 a_X_now_people_cells a_X_now_settings v5.2.2.2.2.2.2.2.2.2.1 v5.2.2.2.2.2.2.2.2.2.2 a_X_now_dues_cells a_X_refusals)) rfl (st1 := []) rfl (fun H locs hP hD hS => ?_)
    refine lv_iload_n hx hb dX10_paid_29 rfl (lv_at hl 1 rfl) ?_
    refine lv_iconst (v := (-1)) hx hb dX10_paid_30 (by decide) ?_
    refine lv_icmp_eq (tgt := 48) hx hb dX10_paid_31 (by decide) (fun h31 => ?_) (fun h31 => ?_)
    · have hg := zp hg h31
      refine lv_iconst (v := 0) hx hb dX10_paid_48 (by decide) ?_
      refine lv_istore_n (lv' := [(2, .int 0), (0, .ref q_X), (1, .int x1)]) hx hb dX10_paid_49 rfl hl (by decide) rfl (fun ls hl => ?_)
      refine lv_iconst (v := 0) hx hb dX10_paid_50 (by decide) ?_
      refine lv_istore_n (lv' := [(3, .int 0), (2, .int 0), (0, .ref q_X), (1, .int x1)]) hx hb dX10_paid_51 rfl hl (by decide) rfl (fun ls hl => ?_)
      exact B52 zF 0 0 v5.1 v5.2.1 v5.2.2.1 v5.2.2.2.1 v5.2.2.2.2.1 v5.2.2.2.2.2.1 v5.2.2.2.2.2.2.1 v5.2.2.2.2.2.2.2.1 v5.2.2.2.2.2.2.2.2.1 v5.2.2.2.2.2.2.2.2.2.1 v5.2.2.2.2.2.2.2.2.2.2 a_X_refusals _ _ _ (lv_sub hl [2, 1, 0] rfl) hP hD hS hg
    · have hg := zn hg h31
      refine lv_aload_n hx hb dX10_paid_34 rfl (lv_at hl 0 rfl) ?_
      refine lv_iload_n hx hb dX10_paid_35 rfl (lv_at hl 1 rfl) ?_
      obtain ⟨v13, hc14, hg⟩ := zbd hg
      refine zcallV (rest := []) S (c_X10_isPaid l D cI cJ cZ cA ga q_X q_X_day q_X_now q_X_now_dues q_X_now_dues_cells q_X_day_clocks q_X_day_clocks0 q_X_day_clocks1 u_X_draft u_X_text u_X_reader (.ref q_X_rule) u_X_plan u_X_guess u_X_quarrel u_X_fraction u_X_firstImage u_X_secondImage u_X_kept (.ref q_X_refusals) (.ref q_X_now_people) (.ref q_X_now_talks) u_X_now_sights (.ref q_X_now_rule) (.ref q_X_now_settings) u_X_now_stake u_X_now_dues_limit (.ref q_X_rule) (.ref q_X_day_talkers) (.int v5.2.2.2.2.2.1) N_X_now_dues_cells v_X_now_dues_width v_X_now_dues_size a_X_now_dues_cells v5.2.2.2.2.2.2.2.1 v5.2.2.2.2.2.2.2.2.1 x1 v13 hc14) (zgV zw_760 zw_761 zw_762 zw_2 zw_763) rfl hd_X10_isPaid ⟨rfl, rfl⟩ ⟨Nat.le_of_ble_eq_true rfl, Nat.le_of_ble_eq_true rfl⟩ 0 10 rfl rfl rfl hl.1 rfl (Nat.le_of_ble_eq_true rfl) dX10_paid_36 hP hD hS hA hK hG (isC := [0, 1, 2, 19, 7, 12, 13, 14]) rfl (by decide +kernel) rfl ⟨Nat.zero_le _, Nat.zero_le _⟩ (pl := [some 0, some 1, some 2, none, none, none, none, some 4, none, none, none, none, some 5, some 6, some 7, none, none, none, none, some 3, none]) (nw := 21) rfl (by decide +kernel) (w2 := (ws_X10_paid cI cJ cZ cA q_X q_X_now q_X_now_dues q_X_rule q_X_now_rule q_X_now_rule_cells q_X_rule_row q_X_day q_X_day_talkers q_X_now_talks q_X_now_talks_cells q_X_now_people q_X_day_clocks q_X_day_clocks0 q_X_day_clocks1 q_X_now_people_cells q_X_now_settings q_X_rule_known q_X_rule_stack q_X_now_dues_cells q_X_refusals u_X_draft u_X_text u_X_reader u_X_plan u_X_guess u_X_quarrel u_X_fraction u_X_firstImage u_X_secondImage u_X_kept u_X_now_sights u_X_now_stake u_X_now_dues_limit u_X_now_rule_limit u_X_now_talks_limit u_X_now_people_limit N_X_now_rule_cells N_X_now_talks_cells N_X_now_people_cells N_X_now_dues_cells v_X_now_dues_width v_X_now_dues_size v5.1 v5.2.1 v5.2.2.1 v5.2.2.2.1 v_X_now_rule_width v_X_now_rule_size a_X_now_rule_cells v5.2.2.2.2.1 v5.2.2.2.2.2.1 v5.2.2.2.2.2.2.1 v_X_now_talks_width v_X_now_talks_size a_X_now_talks_cells v_X_now_people_width v_X_now_people_size v5.2.2.2.2.2.2.2.1 v5.2.2.2.2.2.2.2.2.1 a_X_now_people_cells a_X_now_settings v5.2.2.2.2.2.2.2.2.2.1 v5.2.2.2.2.2.2.2.2.2.2 a_X_now_dues_cells a_X_refusals)) rfl (st1 := [.int v13]) rfl (fun H locs hP hD hS => ?_)
      refine lv_if_eq (tgt := 46) hx hb dX10_paid_39 (by decide) (fun h39 => ?_) (fun h39 => ?_)
      · have hg := zp hg h39
        refine lv_iconst (v := 0) hx hb dX10_paid_46 (by decide) ?_
        exact hret 0 v5.1 v5.2.1 v5.2.2.1 v5.2.2.2.1 v5.2.2.2.2.1 v5.2.2.2.2.2.1 v5.2.2.2.2.2.2.1 v5.2.2.2.2.2.2.2.1 v5.2.2.2.2.2.2.2.2.1 v5.2.2.2.2.2.2.2.2.2.1 v5.2.2.2.2.2.2.2.2.2.2 a_X_refusals hg _ _ _ _ hP hS dX10_paid_47
      · have hg := zn hg h39
        refine lv_iconst (v := 1) hx hb dX10_paid_42 (by decide) ?_
        refine lv_goto (tgt := 47) hx hb dX10_paid_43 (by decide) ?_
        exact hret 1 v5.1 v5.2.1 v5.2.2.1 v5.2.2.2.1 v5.2.2.2.2.1 v5.2.2.2.2.2.1 v5.2.2.2.2.2.2.1 v5.2.2.2.2.2.2.2.1 v5.2.2.2.2.2.2.2.2.1 v5.2.2.2.2.2.2.2.2.2.1 v5.2.2.2.2.2.2.2.2.2.2 a_X_refusals hg _ _ _ _ hP hS dX10_paid_47
  · have hg := zp hg h17
    refine lv_aload_n hx hb dX10_paid_20 rfl (lv_at hl 0 rfl) ?_
    obtain ⟨v15, hc16, hg⟩ := zbd hg
    refine zcallV (rest := []) S (c_X10_refuseWorth l D cI cJ cZ cA ga q_X q_X_refusals (.ref q_X_now) u_X_draft u_X_text u_X_reader (.ref q_X_rule) (.ref q_X_day) u_X_plan u_X_guess u_X_quarrel u_X_fraction u_X_firstImage u_X_secondImage u_X_kept a_X_refusals v15 hc16) (zgV zw_756 zw_757 zw_758 zw_2 zw_759) rfl hd_X10_refuseWorth ⟨rfl, rfl⟩ ⟨Nat.le_of_ble_eq_true rfl, Nat.le_of_ble_eq_true rfl⟩ 0 10 rfl rfl rfl hl.1 rfl (Nat.le_of_ble_eq_true rfl) dX10_paid_21 hP hD hS hA hK hG (isC := [0, 20]) rfl (by decide +kernel) rfl ⟨Nat.zero_le _, Nat.zero_le _⟩ (pl := [some 0, none, none, none, none, none, none, none, none, none, none, none, none, none, none, none, none, none, none, none, some 1]) (nw := 21) rfl (by decide +kernel) (w2 := (ws_X10_paid cI cJ cZ cA q_X q_X_now q_X_now_dues q_X_rule q_X_now_rule q_X_now_rule_cells q_X_rule_row q_X_day q_X_day_talkers q_X_now_talks q_X_now_talks_cells q_X_now_people q_X_day_clocks q_X_day_clocks0 q_X_day_clocks1 q_X_now_people_cells q_X_now_settings q_X_rule_known q_X_rule_stack q_X_now_dues_cells q_X_refusals u_X_draft u_X_text u_X_reader u_X_plan u_X_guess u_X_quarrel u_X_fraction u_X_firstImage u_X_secondImage u_X_kept u_X_now_sights u_X_now_stake u_X_now_dues_limit u_X_now_rule_limit u_X_now_talks_limit u_X_now_people_limit N_X_now_rule_cells N_X_now_talks_cells N_X_now_people_cells N_X_now_dues_cells v_X_now_dues_width v_X_now_dues_size v_X_rule_size v_X_rule_place v_X_rule_fault v_X_rule_isStale v_X_now_rule_width v_X_now_rule_size a_X_now_rule_cells a_X_rule_row v_X_day_isStale a_X_day_talkers v_X_now_talks_width v_X_now_talks_size a_X_now_talks_cells v_X_now_people_width v_X_now_people_size a_X_day_clocks0 a_X_day_clocks1 a_X_now_people_cells a_X_now_settings a_X_rule_known a_X_rule_stack a_X_now_dues_cells v15.2)) rfl (st1 := [.int v15.1]) rfl (fun H locs hP hD hS => ?_)
    exact hret v15.1 v_X_rule_size v_X_rule_place v_X_rule_fault v_X_rule_isStale a_X_rule_row v_X_day_isStale a_X_day_talkers a_X_day_clocks0 a_X_day_clocks1 a_X_rule_known a_X_rule_stack v15.2 hg _ _ _ _ hP hS dX10_paid_24

/-! SpokenClock.isPrice(I)Z -/
abbrev ws_X10_isPrice (cI cJ cZ cA : ClassId) : va_W := []
abbrev rm_X10_isPrice : Room := { frames := 1, cells := 0, slots := 0, locals := 22 }
def g_X10_isPrice (x0 : Int32) : Option (Int32) :=
  (g_X10_isIn x0 0 9).bind fun v1 =>
  if v1 = 0 ∨ v1 = 1 then
    some (v1)
  else none
theorem hd_X10_isPrice : yX10_isPrice.cls ≠ "java/lang/invoke/MethodHandle" ∧ yX10_isPrice.cls ≠ "java/lang/invoke/VarHandle" ∧ (parseMethodDescriptor yX10_isPrice.desc).map (fun d => d.parameters.length) = some 1 := by decide +kernel
set_option maxHeartbeats 4000000 in
set_option maxRecDepth 100000 in
theorem c_X10_isPrice (l : Launch) (D : va_G) (cI cJ cZ cA : ClassId) (ga : Nat → Nat) (x0 : Int32) (o : Int32) (hg : g_X10_isPrice x0 = some o) : zM l yX10_isPrice (Cond.code yX10_isPrice cX10_isPrice 1 (some .boolean) :: wsL_law) rm_X10_isPrice D (zTy cI cJ cZ cA) ga [.int x0] (ws_X10_isPrice cI cJ cZ cA) (ws_X10_isPrice cI cJ cZ cA) (some (.int o)) := by
  refine zenterN (own := RX10) (by decide) rfl rfl (Nat.le_of_ble_eq_true rfl) ?_
  intro p e s m args below meth c A ls Q S hA hK hG hl hP hD hS hret0
  have hx := S.1
  have hb := S.2.1
  have ht : ∀ w, w ∈ wsL_law → w.before args s = true := fun w h => S.2.2.2.2 w (List.mem_cons_of_mem _ h)
  have hret : ∀ (r9 : Int32), (some (r9) : Option (Int32)) = some o → narrow .boolean (.int r9) = .int r9 → ∀ (H : Heap) (locs : List Loc) (pc : Nat) (ls : Array Slot), va_P D vwCl (ws_X10_isPrice cI cJ cZ cA) H → va_S A s.heap H locs → decode cX10_isPrice pc = .ok (.ireturn, 1) → W p l e rm_X10_isPrice s m args below meth c H locs 0 0 Q (F0 m pc ls [.int r9]) := by
    intro r9 he; cases he; exact hret0
  have hl : lv_has ls 1 [(0, .int x0)] := hl
  refine lv_iload_n hx hb dX10_isPrice_0 rfl (lv_at hl 0 rfl) ?_
  refine lv_iconst (v := 0) hx hb dX10_isPrice_1 (by decide) ?_
  refine lv_bipush (v := 9) hx hb dX10_isPrice_2 (by decide) ?_
  obtain ⟨v1, hc2, hg⟩ := zbd hg
  refine zcallS (rest := []) S (c_X10_isIn l D cI cJ cZ cA ga x0 0 9 v1 hc2) (zgS zw_188 zw_189 zw_2 zw_190) rfl hd_X10_isIn ⟨rfl, rfl⟩ ⟨Nat.le_of_ble_eq_true rfl, Nat.le_of_ble_eq_true rfl⟩ rfl hl.1 rfl (Nat.le_of_ble_eq_true rfl) dX10_isPrice_4 hP hD hS hA hK hG (isC := []) rfl (by decide +kernel) rfl ⟨Nat.zero_le _, Nat.zero_le _⟩ (pl := []) (nw := 0) rfl (by decide +kernel) (w2 := (ws_X10_isPrice cI cJ cZ cA)) rfl (st1 := [.int v1]) rfl (fun H locs hP hD hS => ?_)
  obtain ⟨hz01, hg⟩ := zck2 hg
  exact hret v1 hg (zb01 hz01) _ _ _ _ hP hS dX10_isPrice_7

/-! SpokenClock$Plan.keepStep(III)V -/
abbrev ws_X4_keepStep (cI cJ cZ cA : ClassId) (q_X_plan q_X_plan_steps : Nat) (u_X_plan_state : Value) (u_X_plan_most : Value) (u_X_plan_price : Value) (u_X_plan_isStale : Value) (a_X_plan_steps : Nat → Int64) : va_W := [(q_X_plan, .inr (4, [u_X_plan_state, u_X_plan_most, .ref q_X_plan_steps, u_X_plan_price, u_X_plan_isStale])), (q_X_plan_steps, .inl (cJ, 495, .inr (.inl a_X_plan_steps)))]
abbrev rm_X4_keepStep : Room := { frames := 1, cells := 0, slots := 0, locals := 22 }
def g_X4_keepStep (x1 : Int32) (x2 : Int32) (x3 : Int32) (a_X_plan_steps : Nat → Int64) : Option ((Nat → Int64)) :=
  (g_X10_isIn x1 0 98).bind fun v1 =>
  if v1 = 0 then (
    some (a_X_plan_steps)
  ) else (
    (g_X10_isIn x2 0 99).bind fun v3 =>
    if v3 = 0 then (
      some (a_X_plan_steps)
    ) else (
      if ((x1 * 5) + (x2 / 20)) < 0 ∨ 495 ≤ ((x1 * 5) + (x2 / 20)).toNatClampNeg then none else
      if ((x1 * 5) + (x2 / 20)) < 0 ∨ 495 ≤ ((x1 * 5) + (x2 / 20)).toNatClampNeg then none else
      some (vp_updL a_X_plan_steps (((x1 * 5) + (x2 / 20)).toNatClampNeg) ((a_X_plan_steps (((x1 * 5) + (x2 / 20)).toNatClampNeg)) ||| (x3.toInt64 <<< ((3 * (x2 - x2 / 20 * 20)).toInt64 &&& 63))))
    )
  )
theorem hd_X4_keepStep : yX4_keepStep.cls = RX4 ∧ yX4_keepStep.cls ≠ "java/lang/invoke/MethodHandle" ∧ yX4_keepStep.cls ≠ "java/lang/invoke/VarHandle" ∧ (parseMethodDescriptor yX4_keepStep.desc).map (fun d => d.parameters.length) = some 3 := by decide +kernel
set_option maxHeartbeats 4000000 in
set_option maxRecDepth 100000 in
theorem c_X4_keepStep (l : Launch) (D : va_G) (cI cJ cZ cA : ClassId) (ga : Nat → Nat) (q_X_plan q_X_plan_steps : Nat) (u_X_plan_state : Value) (u_X_plan_most : Value) (u_X_plan_price : Value) (u_X_plan_isStale : Value) (a_X_plan_steps : Nat → Int64) (x1 : Int32) (x2 : Int32) (x3 : Int32) (o : (Nat → Int64)) (hg : g_X4_keepStep x1 x2 x3 a_X_plan_steps = some o) : zM l yX4_keepStep (Cond.code yX4_keepStep cX4_keepStep 5 none :: wsL_law) rm_X4_keepStep D (zTy cI cJ cZ cA) ga [.ref q_X_plan, .int x1, .int x2, .int x3] (ws_X4_keepStep cI cJ cZ cA q_X_plan q_X_plan_steps u_X_plan_state u_X_plan_most u_X_plan_price u_X_plan_isStale a_X_plan_steps) (ws_X4_keepStep cI cJ cZ cA q_X_plan q_X_plan_steps u_X_plan_state u_X_plan_most u_X_plan_price u_X_plan_isStale o) none := by
  refine zenterV (own := RX4) (by decide) rfl rfl (Nat.le_of_ble_eq_true rfl) ?_
  intro p e s m args below meth c A ls Q S hA hK hG hl hP hD hS hret0
  have hx := S.1
  have hb := S.2.1
  have ht : ∀ w, w ∈ wsL_law → w.before args s = true := fun w h => S.2.2.2.2 w (List.mem_cons_of_mem _ h)
  have hret : ∀ (a_X_plan_steps : Nat → Int64), (some (a_X_plan_steps) : Option ((Nat → Int64))) = some o → ∀ (H : Heap) (locs : List Loc) (pc : Nat) (ls : Array Slot), va_P D vwCl (ws_X4_keepStep cI cJ cZ cA q_X_plan q_X_plan_steps u_X_plan_state u_X_plan_most u_X_plan_price u_X_plan_isStale a_X_plan_steps) H → va_S A s.heap H locs → decode cX4_keepStep pc = .ok (.return_, 1) → W p l e rm_X4_keepStep s m args below meth c H locs 0 0 Q (F0 m pc ls []) := by
    intro a_X_plan_steps he; cases he; exact hret0
  have hl : lv_has ls 5 [(0, .ref q_X_plan), (1, .int x1), (2, .int x2), (3, .int x3)] := hl
  refine lv_iload_n hx hb dX4_keepStep_0 rfl (lv_at hl 1 rfl) ?_
  refine lv_iconst (v := 0) hx hb dX4_keepStep_1 (by decide) ?_
  refine lv_bipush (v := 98) hx hb dX4_keepStep_2 (by decide) ?_
  obtain ⟨v1, hc2, hg⟩ := zbd hg
  refine zcallSN (rest := []) S (c_X10_isIn l D cI cJ cZ cA ga x1 0 98 v1 hc2) (zgI zw_190) rfl hd_X10_isIn hG.1.2.1.2.2.2.2.2.2.1 (List.mem_cons_of_mem _ zw_2) (List.mem_cons_of_mem _ zw_189) ⟨rfl, rfl⟩ ⟨Nat.le_of_ble_eq_true rfl, Nat.le_of_ble_eq_true rfl⟩ rfl hl.1 rfl (Nat.le_of_ble_eq_true rfl) dX4_keepStep_4 hP hD hS hA hK hG (isC := []) rfl (by decide +kernel) rfl ⟨Nat.zero_le _, Nat.zero_le _⟩ (pl := [none, none]) (nw := 2) rfl (by decide +kernel) (w2 := (ws_X4_keepStep cI cJ cZ cA q_X_plan q_X_plan_steps u_X_plan_state u_X_plan_most u_X_plan_price u_X_plan_isStale a_X_plan_steps)) rfl (st1 := [.int v1]) rfl (fun H locs hP hD hS => ?_)
  refine lv_if_eq (tgt := 49) hx hb dX4_keepStep_7 (by decide) (fun h7 => ?_) (fun h7 => ?_)
  · have hg := zp hg h7
    exact hret a_X_plan_steps hg _ _ _ _ hP hS dX4_keepStep_49
  · have hg := zn hg h7
    refine lv_iload_n hx hb dX4_keepStep_10 rfl (lv_at hl 2 rfl) ?_
    refine lv_iconst (v := 0) hx hb dX4_keepStep_11 (by decide) ?_
    refine lv_bipush (v := 99) hx hb dX4_keepStep_12 (by decide) ?_
    obtain ⟨v3, hc4, hg⟩ := zbd hg
    refine zcallSN (rest := []) S (c_X10_isIn l D cI cJ cZ cA ga x2 0 99 v3 hc4) (zgI zw_190) rfl hd_X10_isIn hG.1.2.1.2.2.2.2.2.2.1 (List.mem_cons_of_mem _ zw_2) (List.mem_cons_of_mem _ zw_189) ⟨rfl, rfl⟩ ⟨Nat.le_of_ble_eq_true rfl, Nat.le_of_ble_eq_true rfl⟩ rfl hl.1 rfl (Nat.le_of_ble_eq_true rfl) dX4_keepStep_14 hP hD hS hA hK hG (isC := []) rfl (by decide +kernel) rfl ⟨Nat.zero_le _, Nat.zero_le _⟩ (pl := [none, none]) (nw := 2) rfl (by decide +kernel) (w2 := (ws_X4_keepStep cI cJ cZ cA q_X_plan q_X_plan_steps u_X_plan_state u_X_plan_most u_X_plan_price u_X_plan_isStale a_X_plan_steps)) rfl (st1 := [.int v3]) rfl (fun H locs hP hD hS => ?_)
    refine lv_if_eq (tgt := 49) hx hb dX4_keepStep_17 (by decide) (fun h17 => ?_) (fun h17 => ?_)
    · have hg := zp hg h17
      exact hret a_X_plan_steps hg _ _ _ _ hP hS dX4_keepStep_49
    · have hg := zn hg h17
      refine lv_iload_n hx hb dX4_keepStep_20 rfl (lv_at hl 1 rfl) ?_
      refine lv_iconst (v := 5) hx hb dX4_keepStep_21 (by decide) ?_
      refine lv_imul hx hb dX4_keepStep_22 ?_
      refine lv_iload_n hx hb dX4_keepStep_23 rfl (lv_at hl 2 rfl) ?_
      refine lv_bipush (v := 20) hx hb dX4_keepStep_24 (by decide) ?_
      refine lv_idiv hx hb dX4_keepStep_26 (by decide) ?_
      refine lv_iadd hx hb dX4_keepStep_27 ?_
      refine lv_istore (lv' := [(4, .int ((x1 * 5) + (x2 / 20))), (0, .ref q_X_plan), (1, .int x1), (2, .int x2), (3, .int x3)]) hx hb dX4_keepStep_28 hl (by decide) rfl (fun ls hl => ?_)
      refine lv_aload_n hx hb dX4_keepStep_30 rfl (lv_at hl 1 rfl) ?_
      refine zget (C := RX4) (T := TX4) (N := 5) S hK hP 0 rfl rfl 2 (Nat.le_of_ble_eq_true rfl) zf_4 zw_134 rfl dX4_keepStep_31 ?_
      refine lv_iload hx hb dX4_keepStep_34 (lv_at hl 0 rfl) ?_
      refine lv_dup2_11 hx hb dX4_keepStep_36 rfl rfl ?_
      obtain ⟨h5, hg⟩ := zck hg
      refine zlald hx hb hK hP 1 1 rfl rfl (j := (((x1 * 5) + (x2 / 20)).toNatClampNeg)) h5 rfl dX4_keepStep_37 ?_
      refine lv_iload_n hx hb dX4_keepStep_38 rfl (lv_at hl 4 rfl) ?_
      refine lv_i2l hx hb dX4_keepStep_39 rfl ?_
      refine lv_iconst (v := 3) hx hb dX4_keepStep_40 (by decide) ?_
      refine lv_iload_n hx hb dX4_keepStep_41 rfl (lv_at hl 3 rfl) ?_
      refine lv_bipush (v := 20) hx hb dX4_keepStep_42 (by decide) ?_
      refine lv_irem hx hb dX4_keepStep_44 (by decide) ?_
      refine lv_imul hx hb dX4_keepStep_45 ?_
      refine lv_lshl hx hb dX4_keepStep_46 rfl ?_
      refine lv_lor hx hb dX4_keepStep_47 ?_
      obtain ⟨h6, hg⟩ := zck hg
      refine zlast hx hb hK hP hD hS 1 1 rfl rfl (j := (((x1 * 5) + (x2 / 20)).toNatClampNeg)) h6 rfl dX4_keepStep_48 (w2 := (ws_X4_keepStep cI cJ cZ cA q_X_plan q_X_plan_steps u_X_plan_state u_X_plan_most u_X_plan_price u_X_plan_isStale (vp_updL a_X_plan_steps (((x1 * 5) + (x2 / 20)).toNatClampNeg) ((a_X_plan_steps (((x1 * 5) + (x2 / 20)).toNatClampNeg)) ||| (x3.toInt64 <<< ((3 * (x2 - x2 / 20 * 20)).toInt64 &&& 63)))))) rfl (fun H locs hP hD hS => ?_)
      exact hret (vp_updL a_X_plan_steps (((x1 * 5) + (x2 / 20)).toNatClampNeg) ((a_X_plan_steps (((x1 * 5) + (x2 / 20)).toNatClampNeg)) ||| (x3.toInt64 <<< ((3 * (x2 - x2 / 20 * 20)).toInt64 &&& 63)))) hg _ _ _ _ hP hS dX4_keepStep_49

/-! SpokenClock$Plan.chooseSteps(II)V -/
abbrev ws_X4_chooseSteps (cI cJ cZ cA : ClassId) (q_X_plan q_X_now q_X_now_settings q_X_plan_most q_X_plan_steps : Nat) (u_X_plan_isStale : Value) (u_X_now_people : Value) (u_X_now_talks : Value) (u_X_now_dues : Value) (u_X_now_sights : Value) (u_X_now_rule : Value) (u_X_now_stake : Value) (v_X_plan_price : Int32) (a_X_now_settings : Nat → Int32) (a_X_plan_most : Nat → Int32) (a_X_plan_steps : Nat → Int64) : va_W := [(q_X_plan, .inr (4, [.ref q_X_now, .ref q_X_plan_most, .ref q_X_plan_steps, .int v_X_plan_price, u_X_plan_isStale])), (q_X_now, .inr (9, [u_X_now_people, u_X_now_talks, u_X_now_dues, u_X_now_sights, u_X_now_rule, .ref q_X_now_settings, u_X_now_stake])), (q_X_now_settings, .inl (cI, 3, .inl a_X_now_settings)), (q_X_plan_most, .inl (cI, 100, .inl a_X_plan_most)), (q_X_plan_steps, .inl (cJ, 495, .inr (.inl a_X_plan_steps)))]
abbrev rm_X4_chooseSteps : Room := { frames := 2, cells := 0, slots := 0, locals := 46 }
def g_X4_chooseSteps_92 (v_X_plan_price : Int32) (a_X_now_settings : Nat → Int32) (x1 : Int32) (x2 : Int32) (k24 : Int32 → Int32 → Int32 → (Nat → Int32) → (Nat → Int64) → Option ((Nat → Int32) × (Nat → Int64))) (k46 : Int32 → Int32 → Int32 → Int32 → Int32 → Int32 → (Nat → Int32) → (Nat → Int64) → Option ((Nat → Int32) × (Nat → Int64))) (x3 : Int32) (x4 : Int32) (x5 : Int32) (x6 : Int32) (x7 : Int32) (x8 : Int32) (a_X_plan_most : Nat → Int32) (a_X_plan_steps : Nat → Int64) : Option ((Nat → Int32) × (Nat → Int64)) :=
  k46 x3 x4 x5 x6 x7 (x8 + 1) a_X_plan_most a_X_plan_steps
def g_X4_chooseSteps_46b (v_X_plan_price : Int32) (a_X_now_settings : Nat → Int32) (x1 : Int32) (x2 : Int32) (k24 : Int32 → Int32 → Int32 → (Nat → Int32) → (Nat → Int64) → Option ((Nat → Int32) × (Nat → Int64))) (k46 : Int32 → Int32 → Int32 → Int32 → Int32 → Int32 → (Nat → Int32) → (Nat → Int64) → Option ((Nat → Int32) × (Nat → Int64))) (x3 : Int32) (x4 : Int32) (x5 : Int32) (x6 : Int32) (x7 : Int32) (x8 : Int32) (a_X_plan_most : Nat → Int32) (a_X_plan_steps : Nat → Int64) : Option ((Nat → Int32) × (Nat → Int64)) :=
  if x3 < x8 then (
    if x5 < 0 ∨ 100 ≤ x5.toNatClampNeg then none else
    (g_X4_keepStep x1 x5 x7 a_X_plan_steps).bind fun v3 =>
    k24 x3 x4 (x5 + 1) (upd a_X_plan_most (x5.toNatClampNeg) x6) v3
  ) else (
    if (if (99 : Int32) < (x5 + x8) then (99 : Int32) else (x5 + x8)) < 0 ∨ 100 ≤ (if (99 : Int32) < (x5 + x8) then (99 : Int32) else (x5 + x8)).toNatClampNeg then none else
    if ((a_X_plan_most ((if (99 : Int32) < (x5 + x8) then (99 : Int32) else (x5 + x8)).toNatClampNeg)) - (v_X_plan_price * x8)) ≤ x6 then (
      g_X4_chooseSteps_92 v_X_plan_price a_X_now_settings x1 x2 k24 k46 x3 x4 x5 x6 x7 x8 a_X_plan_most a_X_plan_steps
    ) else (
      g_X4_chooseSteps_92 v_X_plan_price a_X_now_settings x1 x2 k24 k46 x3 x4 x5 ((a_X_plan_most ((if (99 : Int32) < (x5 + x8) then (99 : Int32) else (x5 + x8)).toNatClampNeg)) - (v_X_plan_price * x8)) x8 x8 a_X_plan_most a_X_plan_steps
    )
  )
def g_X4_chooseSteps_46 (v_X_plan_price : Int32) (a_X_now_settings : Nat → Int32) (x1 : Int32) (x2 : Int32) (k24 : Int32 → Int32 → Int32 → (Nat → Int32) → (Nat → Int64) → Option ((Nat → Int32) × (Nat → Int64))) : Nat → Int32 → Int32 → Int32 → Int32 → Int32 → Int32 → (Nat → Int32) → (Nat → Int64) → Option ((Nat → Int32) × (Nat → Int64))
  | 0, _, _, _, _, _, _, _, _ => none
  | n + 1, x3, x4, x5, x6, x7, x8, a_X_plan_most, a_X_plan_steps => g_X4_chooseSteps_46b v_X_plan_price a_X_now_settings x1 x2 k24 (g_X4_chooseSteps_46 v_X_plan_price a_X_now_settings x1 x2 k24 n) x3 x4 x5 x6 x7 x8 a_X_plan_most a_X_plan_steps
def g_X4_chooseSteps_24b (v_X_plan_price : Int32) (a_X_now_settings : Nat → Int32) (x1 : Int32) (x2 : Int32) (k24 : Int32 → Int32 → Int32 → (Nat → Int32) → (Nat → Int64) → Option ((Nat → Int32) × (Nat → Int64))) (x3 : Int32) (x4 : Int32) (x5 : Int32) (a_X_plan_most : Nat → Int32) (a_X_plan_steps : Nat → Int64) : Option ((Nat → Int32) × (Nat → Int64)) :=
  if x4 < x5 then (
    some (a_X_plan_most, a_X_plan_steps)
  ) else (
    if x5 < 0 ∨ 100 ≤ x5.toNatClampNeg then none else
    g_X4_chooseSteps_46 v_X_plan_price a_X_now_settings x1 x2 k24 zF x3 x4 x5 (a_X_plan_most (x5.toNatClampNeg)) 0 1 a_X_plan_most a_X_plan_steps
  )
def g_X4_chooseSteps_24 (v_X_plan_price : Int32) (a_X_now_settings : Nat → Int32) (x1 : Int32) (x2 : Int32) : Nat → Int32 → Int32 → Int32 → (Nat → Int32) → (Nat → Int64) → Option ((Nat → Int32) × (Nat → Int64))
  | 0, _, _, _, _, _ => none
  | n + 1, x3, x4, x5, a_X_plan_most, a_X_plan_steps => g_X4_chooseSteps_24b v_X_plan_price a_X_now_settings x1 x2 (g_X4_chooseSteps_24 v_X_plan_price a_X_now_settings x1 x2 n) x3 x4 x5 a_X_plan_most a_X_plan_steps
def g_X4_chooseSteps (v_X_plan_price : Int32) (a_X_now_settings : Nat → Int32) (x1 : Int32) (x2 : Int32) (a_X_plan_most : Nat → Int32) (a_X_plan_steps : Nat → Int64) : Option ((Nat → Int32) × (Nat → Int64)) :=
  g_X4_chooseSteps_24 v_X_plan_price a_X_now_settings x1 x2 zF (a_X_now_settings 0) (if x2 < (((a_X_now_settings 0) * x1) + 1) then x2 else (((a_X_now_settings 0) * x1) + 1)) 0 a_X_plan_most a_X_plan_steps
theorem hd_X4_chooseSteps : yX4_chooseSteps.cls = RX4 ∧ yX4_chooseSteps.cls ≠ "java/lang/invoke/MethodHandle" ∧ yX4_chooseSteps.cls ≠ "java/lang/invoke/VarHandle" ∧ (parseMethodDescriptor yX4_chooseSteps.desc).map (fun d => d.parameters.length) = some 2 := by decide +kernel
set_option maxHeartbeats 4000000 in
set_option maxRecDepth 100000 in
theorem c_X4_chooseSteps (l : Launch) (D : va_G) (cI cJ cZ cA : ClassId) (ga : Nat → Nat) (q_X_plan q_X_now q_X_now_settings q_X_plan_most q_X_plan_steps : Nat) (u_X_plan_isStale : Value) (u_X_now_people : Value) (u_X_now_talks : Value) (u_X_now_dues : Value) (u_X_now_sights : Value) (u_X_now_rule : Value) (u_X_now_stake : Value) (v_X_plan_price : Int32) (a_X_now_settings : Nat → Int32) (a_X_plan_most : Nat → Int32) (a_X_plan_steps : Nat → Int64) (x1 : Int32) (x2 : Int32) (o : (Nat → Int32) × (Nat → Int64)) (hg : g_X4_chooseSteps v_X_plan_price a_X_now_settings x1 x2 a_X_plan_most a_X_plan_steps = some o) : zM l yX4_chooseSteps (Cond.code yX4_chooseSteps cX4_chooseSteps 10 none :: wsL_law) rm_X4_chooseSteps D (zTy cI cJ cZ cA) ga [.ref q_X_plan, .int x1, .int x2] (ws_X4_chooseSteps cI cJ cZ cA q_X_plan q_X_now q_X_now_settings q_X_plan_most q_X_plan_steps u_X_plan_isStale u_X_now_people u_X_now_talks u_X_now_dues u_X_now_sights u_X_now_rule u_X_now_stake v_X_plan_price a_X_now_settings a_X_plan_most a_X_plan_steps) (ws_X4_chooseSteps cI cJ cZ cA q_X_plan q_X_now q_X_now_settings q_X_plan_most q_X_plan_steps u_X_plan_isStale u_X_now_people u_X_now_talks u_X_now_dues u_X_now_sights u_X_now_rule u_X_now_stake v_X_plan_price a_X_now_settings o.1 o.2) none := by
  refine zenterV (own := RX4) (by decide) rfl rfl (Nat.le_of_ble_eq_true rfl) ?_
  intro p e s m args below meth c A ls Q S hA hK hG hl hP hD hS hret0
  have hx := S.1
  have hb := S.2.1
  have ht : ∀ w, w ∈ wsL_law → w.before args s = true := fun w h => S.2.2.2.2 w (List.mem_cons_of_mem _ h)
  have hret : ∀ (a_X_plan_most : Nat → Int32) (a_X_plan_steps : Nat → Int64), (some (a_X_plan_most, a_X_plan_steps) : Option ((Nat → Int32) × (Nat → Int64))) = some o → ∀ (H : Heap) (locs : List Loc) (pc : Nat) (ls : Array Slot), va_P D vwCl (ws_X4_chooseSteps cI cJ cZ cA q_X_plan q_X_now q_X_now_settings q_X_plan_most q_X_plan_steps u_X_plan_isStale u_X_now_people u_X_now_talks u_X_now_dues u_X_now_sights u_X_now_rule u_X_now_stake v_X_plan_price a_X_now_settings a_X_plan_most a_X_plan_steps) H → va_S A s.heap H locs → decode cX4_chooseSteps pc = .ok (.return_, 1) → W p l e rm_X4_chooseSteps s m args below meth c H locs 0 0 Q (F0 m pc ls []) := by
    intro a_X_plan_most a_X_plan_steps he; cases he; exact hret0
  have hl : lv_has ls 10 [(0, .ref q_X_plan), (1, .int x1), (2, .int x2)] := hl
  have B92 : ∀ (k24 : Int32 → Int32 → Int32 → (Nat → Int32) → (Nat → Int64) → Option ((Nat → Int32) × (Nat → Int64))) (hk24 : ∀ (x3 : Int32) (x4 : Int32) (x5 : Int32) (a_X_plan_most : Nat → Int32) (a_X_plan_steps : Nat → Int64) (H : Heap) (locs : List Loc) (ls : Array Slot) (hl : lv_has ls 10 [(0, .ref q_X_plan), (1, .int x1), (3, .int x3), (4, .int x4), (5, .int x5)]) (hP : va_P D vwCl (ws_X4_chooseSteps cI cJ cZ cA q_X_plan q_X_now q_X_now_settings q_X_plan_most q_X_plan_steps u_X_plan_isStale u_X_now_people u_X_now_talks u_X_now_dues u_X_now_sights u_X_now_rule u_X_now_stake v_X_plan_price a_X_now_settings a_X_plan_most a_X_plan_steps) H) (hD : va_D A (ws_X4_chooseSteps cI cJ cZ cA q_X_plan q_X_now q_X_now_settings q_X_plan_most q_X_plan_steps u_X_plan_isStale u_X_now_people u_X_now_talks u_X_now_dues u_X_now_sights u_X_now_rule u_X_now_stake v_X_plan_price a_X_now_settings a_X_plan_most a_X_plan_steps)) (hS : va_S A s.heap H locs), k24 x3 x4 x5 a_X_plan_most a_X_plan_steps = some o → W p l e rm_X4_chooseSteps s m args below meth c H locs 0 0 Q (F0 m 24 ls [])) (k46 : Int32 → Int32 → Int32 → Int32 → Int32 → Int32 → (Nat → Int32) → (Nat → Int64) → Option ((Nat → Int32) × (Nat → Int64))) (hk46 : ∀ (x3 : Int32) (x4 : Int32) (x5 : Int32) (x6 : Int32) (x7 : Int32) (x8 : Int32) (a_X_plan_most : Nat → Int32) (a_X_plan_steps : Nat → Int64) (H : Heap) (locs : List Loc) (ls : Array Slot) (hl : lv_has ls 10 [(0, .ref q_X_plan), (1, .int x1), (3, .int x3), (4, .int x4), (5, .int x5), (6, .int x6), (7, .int x7), (8, .int x8)]) (hP : va_P D vwCl (ws_X4_chooseSteps cI cJ cZ cA q_X_plan q_X_now q_X_now_settings q_X_plan_most q_X_plan_steps u_X_plan_isStale u_X_now_people u_X_now_talks u_X_now_dues u_X_now_sights u_X_now_rule u_X_now_stake v_X_plan_price a_X_now_settings a_X_plan_most a_X_plan_steps) H) (hD : va_D A (ws_X4_chooseSteps cI cJ cZ cA q_X_plan q_X_now q_X_now_settings q_X_plan_most q_X_plan_steps u_X_plan_isStale u_X_now_people u_X_now_talks u_X_now_dues u_X_now_sights u_X_now_rule u_X_now_stake v_X_plan_price a_X_now_settings a_X_plan_most a_X_plan_steps)) (hS : va_S A s.heap H locs), k46 x3 x4 x5 x6 x7 x8 a_X_plan_most a_X_plan_steps = some o → W p l e rm_X4_chooseSteps s m args below meth c H locs 0 0 Q (F0 m 46 ls [])) (x3 : Int32) (x4 : Int32) (x5 : Int32) (x6 : Int32) (x7 : Int32) (x8 : Int32) (a_X_plan_most : Nat → Int32) (a_X_plan_steps : Nat → Int64) (H : Heap) (locs : List Loc) (ls : Array Slot) (hl : lv_has ls 10 [(0, .ref q_X_plan), (1, .int x1), (3, .int x3), (4, .int x4), (5, .int x5), (6, .int x6), (7, .int x7), (8, .int x8)]) (hP : va_P D vwCl (ws_X4_chooseSteps cI cJ cZ cA q_X_plan q_X_now q_X_now_settings q_X_plan_most q_X_plan_steps u_X_plan_isStale u_X_now_people u_X_now_talks u_X_now_dues u_X_now_sights u_X_now_rule u_X_now_stake v_X_plan_price a_X_now_settings a_X_plan_most a_X_plan_steps) H) (hD : va_D A (ws_X4_chooseSteps cI cJ cZ cA q_X_plan q_X_now q_X_now_settings q_X_plan_most q_X_plan_steps u_X_plan_isStale u_X_now_people u_X_now_talks u_X_now_dues u_X_now_sights u_X_now_rule u_X_now_stake v_X_plan_price a_X_now_settings a_X_plan_most a_X_plan_steps)) (hS : va_S A s.heap H locs), g_X4_chooseSteps_92 v_X_plan_price a_X_now_settings x1 x2 k24 k46 x3 x4 x5 x6 x7 x8 a_X_plan_most a_X_plan_steps = some o → W p l e rm_X4_chooseSteps s m args below meth c H locs 0 0 Q (F0 m 92 ls []) := by
    intro k24 hk24 k46 hk46 x3 x4 x5 x6 x7 x8 a_X_plan_most a_X_plan_steps H locs ls hl hP hD hS hg
    refine lv_iinc (k := 7) (v := x8 + 1) (lv' := [(8, .int (x8 + 1)), (0, .ref q_X_plan), (1, .int x1), (3, .int x3), (4, .int x4), (5, .int x5), (6, .int x6), (7, .int x7)]) hx hb dX4_chooseSteps_92 hl rfl (zinc (by decide)) (by decide) rfl (fun ls hl => ?_)
    refine lv_goto (tgt := 46) hx hb dX4_chooseSteps_95 (by decide) ?_
    exact hk46 x3 x4 x5 x6 x7 (x8 + 1) a_X_plan_most a_X_plan_steps _ _ _ (lv_sub hl [1, 2, 3, 4, 5, 6, 7, 0] rfl) hP hD hS hg
  have B46 : ∀ (k24 : Int32 → Int32 → Int32 → (Nat → Int32) → (Nat → Int64) → Option ((Nat → Int32) × (Nat → Int64))) (hk24 : ∀ (x3 : Int32) (x4 : Int32) (x5 : Int32) (a_X_plan_most : Nat → Int32) (a_X_plan_steps : Nat → Int64) (H : Heap) (locs : List Loc) (ls : Array Slot) (hl : lv_has ls 10 [(0, .ref q_X_plan), (1, .int x1), (3, .int x3), (4, .int x4), (5, .int x5)]) (hP : va_P D vwCl (ws_X4_chooseSteps cI cJ cZ cA q_X_plan q_X_now q_X_now_settings q_X_plan_most q_X_plan_steps u_X_plan_isStale u_X_now_people u_X_now_talks u_X_now_dues u_X_now_sights u_X_now_rule u_X_now_stake v_X_plan_price a_X_now_settings a_X_plan_most a_X_plan_steps) H) (hD : va_D A (ws_X4_chooseSteps cI cJ cZ cA q_X_plan q_X_now q_X_now_settings q_X_plan_most q_X_plan_steps u_X_plan_isStale u_X_now_people u_X_now_talks u_X_now_dues u_X_now_sights u_X_now_rule u_X_now_stake v_X_plan_price a_X_now_settings a_X_plan_most a_X_plan_steps)) (hS : va_S A s.heap H locs), k24 x3 x4 x5 a_X_plan_most a_X_plan_steps = some o → W p l e rm_X4_chooseSteps s m args below meth c H locs 0 0 Q (F0 m 24 ls []))  (n : Nat) (x3 : Int32) (x4 : Int32) (x5 : Int32) (x6 : Int32) (x7 : Int32) (x8 : Int32) (a_X_plan_most : Nat → Int32) (a_X_plan_steps : Nat → Int64) (H : Heap) (locs : List Loc) (ls : Array Slot) (hl : lv_has ls 10 [(0, .ref q_X_plan), (1, .int x1), (3, .int x3), (4, .int x4), (5, .int x5), (6, .int x6), (7, .int x7), (8, .int x8)]) (hP : va_P D vwCl (ws_X4_chooseSteps cI cJ cZ cA q_X_plan q_X_now q_X_now_settings q_X_plan_most q_X_plan_steps u_X_plan_isStale u_X_now_people u_X_now_talks u_X_now_dues u_X_now_sights u_X_now_rule u_X_now_stake v_X_plan_price a_X_now_settings a_X_plan_most a_X_plan_steps) H) (hD : va_D A (ws_X4_chooseSteps cI cJ cZ cA q_X_plan q_X_now q_X_now_settings q_X_plan_most q_X_plan_steps u_X_plan_isStale u_X_now_people u_X_now_talks u_X_now_dues u_X_now_sights u_X_now_rule u_X_now_stake v_X_plan_price a_X_now_settings a_X_plan_most a_X_plan_steps)) (hS : va_S A s.heap H locs), g_X4_chooseSteps_46 v_X_plan_price a_X_now_settings x1 x2 k24 n x3 x4 x5 x6 x7 x8 a_X_plan_most a_X_plan_steps = some o → W p l e rm_X4_chooseSteps s m args below meth c H locs 0 0 Q (F0 m 46 ls []) := by
    intro k24 hk24 n
    induction n with
    | zero => intro x3 x4 x5 x6 x7 x8 a_X_plan_most a_X_plan_steps H locs ls hl hP hD hS hg; exact nomatch (show (none : Option ((Nat → Int32) × (Nat → Int64))) = some o from hg)
    | succ n ih =>
      intro x3 x4 x5 x6 x7 x8 a_X_plan_most a_X_plan_steps H locs ls hl hP hD hS hg
      have hg : g_X4_chooseSteps_46b v_X_plan_price a_X_now_settings x1 x2 k24 (g_X4_chooseSteps_46 v_X_plan_price a_X_now_settings x1 x2 k24 n) x3 x4 x5 x6 x7 x8 a_X_plan_most a_X_plan_steps = some o := hg
      refine lv_iload hx hb dX4_chooseSteps_46 (lv_at hl 7 rfl) ?_
      refine lv_iload_n hx hb dX4_chooseSteps_48 rfl (lv_at hl 2 rfl) ?_
      refine lv_icmp_gt (tgt := 98) hx hb dX4_chooseSteps_49 (by decide) (fun h49 => ?_) (fun h49 => ?_)
      · have hg := zp hg h49
        refine lv_aload_n hx hb dX4_chooseSteps_98 rfl (lv_at hl 0 rfl) ?_
        refine zget (C := RX4) (T := TX4) (N := 5) S hK hP 0 rfl rfl 1 (Nat.le_of_ble_eq_true rfl) zf_4 zw_133 rfl dX4_chooseSteps_99 ?_
        refine lv_iload hx hb dX4_chooseSteps_102 (lv_at hl 4 rfl) ?_
        refine lv_iload hx hb dX4_chooseSteps_104 (lv_at hl 5 rfl) ?_
        obtain ⟨h2, hg⟩ := zck hg
        refine ziast hx hb hK hP hD hS 3 0 rfl rfl (j := (x5.toNatClampNeg)) h2 rfl dX4_chooseSteps_106 (w2 := (ws_X4_chooseSteps cI cJ cZ cA q_X_plan q_X_now q_X_now_settings q_X_plan_most q_X_plan_steps u_X_plan_isStale u_X_now_people u_X_now_talks u_X_now_dues u_X_now_sights u_X_now_rule u_X_now_stake v_X_plan_price a_X_now_settings (upd a_X_plan_most (x5.toNatClampNeg) x6) a_X_plan_steps)) rfl (fun H locs hP hD hS => ?_)
        refine lv_aload_n hx hb dX4_chooseSteps_107 rfl (lv_at hl 0 rfl) ?_
        refine lv_iload_n hx hb dX4_chooseSteps_108 rfl (lv_at hl 1 rfl) ?_
        refine lv_iload hx hb dX4_chooseSteps_109 (lv_at hl 4 rfl) ?_
        refine lv_iload hx hb dX4_chooseSteps_111 (lv_at hl 6 rfl) ?_
        obtain ⟨v3, hc4, hg⟩ := zbd hg
        refine zcallV (rest := []) S (c_X4_keepStep l D cI cJ cZ cA ga q_X_plan q_X_plan_steps (.ref q_X_now) (.ref q_X_plan_most) (.int v_X_plan_price) u_X_plan_isStale a_X_plan_steps x1 x5 x7 v3 hc4) (zgV zw_808 zw_809 zw_810 zw_45 zw_811) rfl hd_X4_keepStep ⟨rfl, rfl⟩ ⟨Nat.le_of_ble_eq_true rfl, Nat.le_of_ble_eq_true rfl⟩ 0 4 rfl rfl rfl hl.1 rfl (Nat.le_of_ble_eq_true rfl) dX4_chooseSteps_113 hP hD hS hA hK hG (isC := [0, 4]) rfl (by decide +kernel) rfl ⟨Nat.zero_le _, Nat.zero_le _⟩ (pl := [some 0, none, none, none, some 1]) (nw := 5) rfl (by decide +kernel) (w2 := (ws_X4_chooseSteps cI cJ cZ cA q_X_plan q_X_now q_X_now_settings q_X_plan_most q_X_plan_steps u_X_plan_isStale u_X_now_people u_X_now_talks u_X_now_dues u_X_now_sights u_X_now_rule u_X_now_stake v_X_plan_price a_X_now_settings (upd a_X_plan_most (x5.toNatClampNeg) x6) v3)) rfl (st1 := []) rfl (fun H locs hP hD hS => ?_)
        refine lv_iinc (k := 4) (v := x5 + 1) (lv' := [(5, .int (x5 + 1)), (0, .ref q_X_plan), (1, .int x1), (3, .int x3), (4, .int x4), (6, .int x6), (7, .int x7), (8, .int x8)]) hx hb dX4_chooseSteps_116 hl rfl (zinc (by decide)) (by decide) rfl (fun ls hl => ?_)
        refine lv_goto (tgt := 24) hx hb dX4_chooseSteps_119 (by decide) ?_
        exact hk24 x3 x4 (x5 + 1) (upd a_X_plan_most (x5.toNatClampNeg) x6) v3 _ _ _ (lv_sub hl [1, 2, 3, 4, 0] rfl) hP hD hS hg
      · have hg := zn hg h49
        refine lv_aload_n hx hb dX4_chooseSteps_52 rfl (lv_at hl 0 rfl) ?_
        refine zget (C := RX4) (T := TX4) (N := 5) S hK hP 0 rfl rfl 1 (Nat.le_of_ble_eq_true rfl) zf_4 zw_133 rfl dX4_chooseSteps_53 ?_
        refine lv_iload hx hb dX4_chooseSteps_56 (lv_at hl 4 rfl) ?_
        refine lv_iload hx hb dX4_chooseSteps_58 (lv_at hl 7 rfl) ?_
        refine lv_iadd hx hb dX4_chooseSteps_60 ?_
        refine lv_bipush (v := 99) hx hb dX4_chooseSteps_61 (by decide) ?_
        refine va_mmin hx hb (S.2.2.1.trans hl.1.symm) S.2.2.2.1 (ht _ zw_790) (ht _ zw_96) (ht _ zw_93) (ht _ zw_97) (Nat.le_of_ble_eq_true rfl) (Nat.le_of_ble_eq_true rfl) (Nat.zero_le _) (Nat.zero_le _) dX4_chooseSteps_63 ?_
        obtain ⟨h5, hg⟩ := zck hg
        refine ziald hx hb hK hP 3 0 rfl rfl (j := ((if (99 : Int32) < (x5 + x8) then (99 : Int32) else (x5 + x8)).toNatClampNeg)) h5 rfl dX4_chooseSteps_66 ?_
        refine lv_aload_n hx hb dX4_chooseSteps_67 rfl (lv_at hl 0 rfl) ?_
        refine zget (C := RX4) (T := TX4) (N := 5) S hK hP 0 rfl rfl 3 (Nat.le_of_ble_eq_true rfl) zf_4 zw_788 rfl dX4_chooseSteps_68 ?_
        refine lv_iload hx hb dX4_chooseSteps_71 (lv_at hl 7 rfl) ?_
        refine lv_imul hx hb dX4_chooseSteps_73 ?_
        refine lv_isub hx hb dX4_chooseSteps_74 ?_
        refine lv_istore (lv' := [(9, .int ((a_X_plan_most ((if (99 : Int32) < (x5 + x8) then (99 : Int32) else (x5 + x8)).toNatClampNeg)) - (v_X_plan_price * x8))), (0, .ref q_X_plan), (1, .int x1), (3, .int x3), (4, .int x4), (5, .int x5), (6, .int x6), (7, .int x7), (8, .int x8)]) hx hb dX4_chooseSteps_75 hl (by decide) rfl (fun ls hl => ?_)
        refine lv_iload hx hb dX4_chooseSteps_77 (lv_at hl 0 rfl) ?_
        refine lv_iload hx hb dX4_chooseSteps_79 (lv_at hl 6 rfl) ?_
        refine lv_icmp_le (tgt := 92) hx hb dX4_chooseSteps_81 (by decide) (fun h81 => ?_) (fun h81 => ?_)
        · have hg := zp hg h81
          exact B92 k24 hk24 (g_X4_chooseSteps_46 v_X_plan_price a_X_now_settings x1 x2 k24 n) ih x3 x4 x5 x6 x7 x8 a_X_plan_most a_X_plan_steps _ _ _ (lv_sub hl [1, 2, 3, 4, 5, 6, 7, 8] rfl) hP hD hS hg
        · have hg := zn hg h81
          refine lv_iload hx hb dX4_chooseSteps_84 (lv_at hl 0 rfl) ?_
          refine lv_istore (lv' := [(6, .int ((a_X_plan_most ((if (99 : Int32) < (x5 + x8) then (99 : Int32) else (x5 + x8)).toNatClampNeg)) - (v_X_plan_price * x8))), (9, .int ((a_X_plan_most ((if (99 : Int32) < (x5 + x8) then (99 : Int32) else (x5 + x8)).toNatClampNeg)) - (v_X_plan_price * x8))), (0, .ref q_X_plan), (1, .int x1), (3, .int x3), (4, .int x4), (5, .int x5), (7, .int x7), (8, .int x8)]) hx hb dX4_chooseSteps_86 hl (by decide) rfl (fun ls hl => ?_)
          refine lv_iload hx hb dX4_chooseSteps_88 (lv_at hl 8 rfl) ?_
          refine lv_istore (lv' := [(7, .int x8), (6, .int ((a_X_plan_most ((if (99 : Int32) < (x5 + x8) then (99 : Int32) else (x5 + x8)).toNatClampNeg)) - (v_X_plan_price * x8))), (9, .int ((a_X_plan_most ((if (99 : Int32) < (x5 + x8) then (99 : Int32) else (x5 + x8)).toNatClampNeg)) - (v_X_plan_price * x8))), (0, .ref q_X_plan), (1, .int x1), (3, .int x3), (4, .int x4), (5, .int x5), (8, .int x8)]) hx hb dX4_chooseSteps_90 hl (by decide) rfl (fun ls hl => ?_)
          exact B92 k24 hk24 (g_X4_chooseSteps_46 v_X_plan_price a_X_now_settings x1 x2 k24 n) ih x3 x4 x5 ((a_X_plan_most ((if (99 : Int32) < (x5 + x8) then (99 : Int32) else (x5 + x8)).toNatClampNeg)) - (v_X_plan_price * x8)) x8 x8 a_X_plan_most a_X_plan_steps _ _ _ (lv_sub hl [3, 4, 5, 6, 7, 1, 0, 8] rfl) hP hD hS hg
  have B24 : ∀  (n : Nat) (x3 : Int32) (x4 : Int32) (x5 : Int32) (a_X_plan_most : Nat → Int32) (a_X_plan_steps : Nat → Int64) (H : Heap) (locs : List Loc) (ls : Array Slot) (hl : lv_has ls 10 [(0, .ref q_X_plan), (1, .int x1), (3, .int x3), (4, .int x4), (5, .int x5)]) (hP : va_P D vwCl (ws_X4_chooseSteps cI cJ cZ cA q_X_plan q_X_now q_X_now_settings q_X_plan_most q_X_plan_steps u_X_plan_isStale u_X_now_people u_X_now_talks u_X_now_dues u_X_now_sights u_X_now_rule u_X_now_stake v_X_plan_price a_X_now_settings a_X_plan_most a_X_plan_steps) H) (hD : va_D A (ws_X4_chooseSteps cI cJ cZ cA q_X_plan q_X_now q_X_now_settings q_X_plan_most q_X_plan_steps u_X_plan_isStale u_X_now_people u_X_now_talks u_X_now_dues u_X_now_sights u_X_now_rule u_X_now_stake v_X_plan_price a_X_now_settings a_X_plan_most a_X_plan_steps)) (hS : va_S A s.heap H locs), g_X4_chooseSteps_24 v_X_plan_price a_X_now_settings x1 x2 n x3 x4 x5 a_X_plan_most a_X_plan_steps = some o → W p l e rm_X4_chooseSteps s m args below meth c H locs 0 0 Q (F0 m 24 ls []) := by
    intro  n
    induction n with
    | zero => intro x3 x4 x5 a_X_plan_most a_X_plan_steps H locs ls hl hP hD hS hg; exact nomatch (show (none : Option ((Nat → Int32) × (Nat → Int64))) = some o from hg)
    | succ n ih =>
      intro x3 x4 x5 a_X_plan_most a_X_plan_steps H locs ls hl hP hD hS hg
      have hg : g_X4_chooseSteps_24b v_X_plan_price a_X_now_settings x1 x2 (g_X4_chooseSteps_24 v_X_plan_price a_X_now_settings x1 x2 n) x3 x4 x5 a_X_plan_most a_X_plan_steps = some o := hg
      refine lv_iload hx hb dX4_chooseSteps_24 (lv_at hl 4 rfl) ?_
      refine lv_iload hx hb dX4_chooseSteps_26 (lv_at hl 3 rfl) ?_
      refine lv_icmp_gt (tgt := 122) hx hb dX4_chooseSteps_28 (by decide) (fun h28 => ?_) (fun h28 => ?_)
      · have hg := zp hg h28
        exact hret a_X_plan_most a_X_plan_steps hg _ _ _ _ hP hS dX4_chooseSteps_122
      · have hg := zn hg h28
        refine lv_aload_n hx hb dX4_chooseSteps_31 rfl (lv_at hl 0 rfl) ?_
        refine zget (C := RX4) (T := TX4) (N := 5) S hK hP 0 rfl rfl 1 (Nat.le_of_ble_eq_true rfl) zf_4 zw_133 rfl dX4_chooseSteps_32 ?_
        refine lv_iload hx hb dX4_chooseSteps_35 (lv_at hl 4 rfl) ?_
        obtain ⟨h1, hg⟩ := zck hg
        refine ziald hx hb hK hP 3 0 rfl rfl (j := (x5.toNatClampNeg)) h1 rfl dX4_chooseSteps_37 ?_
        refine lv_istore (lv' := [(6, .int (a_X_plan_most (x5.toNatClampNeg))), (0, .ref q_X_plan), (1, .int x1), (3, .int x3), (4, .int x4), (5, .int x5)]) hx hb dX4_chooseSteps_38 hl (by decide) rfl (fun ls hl => ?_)
        refine lv_iconst (v := 0) hx hb dX4_chooseSteps_40 (by decide) ?_
        refine lv_istore (lv' := [(7, .int 0), (6, .int (a_X_plan_most (x5.toNatClampNeg))), (0, .ref q_X_plan), (1, .int x1), (3, .int x3), (4, .int x4), (5, .int x5)]) hx hb dX4_chooseSteps_41 hl (by decide) rfl (fun ls hl => ?_)
        refine lv_iconst (v := 1) hx hb dX4_chooseSteps_43 (by decide) ?_
        refine lv_istore (lv' := [(8, .int 1), (7, .int 0), (6, .int (a_X_plan_most (x5.toNatClampNeg))), (0, .ref q_X_plan), (1, .int x1), (3, .int x3), (4, .int x4), (5, .int x5)]) hx hb dX4_chooseSteps_44 hl (by decide) rfl (fun ls hl => ?_)
        exact B46 (g_X4_chooseSteps_24 v_X_plan_price a_X_now_settings x1 x2 n) ih zF x3 x4 x5 (a_X_plan_most (x5.toNatClampNeg)) 0 1 a_X_plan_most a_X_plan_steps _ _ _ (lv_sub hl [3, 4, 5, 6, 7, 2, 1, 0] rfl) hP hD hS hg
  refine lv_aload_n hx hb dX4_chooseSteps_0 rfl (lv_at hl 0 rfl) ?_
  refine zget (C := RX4) (T := TX4) (N := 5) S hK hP 0 rfl rfl 0 (Nat.le_of_ble_eq_true rfl) zf_4 zw_136 rfl dX4_chooseSteps_1 ?_
  refine zget (C := RX9) (T := TX9) (N := 7) S hK hP 1 rfl rfl 5 (Nat.le_of_ble_eq_true rfl) zf_9 zw_807 rfl dX4_chooseSteps_4 ?_
  refine lv_iconst (v := 0) hx hb dX4_chooseSteps_7 (by decide) ?_
  refine ziald hx hb hK hP 2 0 rfl rfl (j := 0) (zin (by decide)) (by decide) dX4_chooseSteps_8 ?_
  refine lv_istore_n (lv' := [(3, .int (a_X_now_settings 0)), (0, .ref q_X_plan), (1, .int x1), (2, .int x2)]) hx hb dX4_chooseSteps_9 rfl hl (by decide) rfl (fun ls hl => ?_)
  refine lv_iload_n hx hb dX4_chooseSteps_10 rfl (lv_at hl 0 rfl) ?_
  refine lv_iload_n hx hb dX4_chooseSteps_11 rfl (lv_at hl 2 rfl) ?_
  refine lv_imul hx hb dX4_chooseSteps_12 ?_
  refine lv_iconst (v := 1) hx hb dX4_chooseSteps_13 (by decide) ?_
  refine lv_iadd hx hb dX4_chooseSteps_14 ?_
  refine lv_iload_n hx hb dX4_chooseSteps_15 rfl (lv_at hl 3 rfl) ?_
  refine va_mmin hx hb (S.2.2.1.trans hl.1.symm) S.2.2.2.1 (ht _ zw_790) (ht _ zw_96) (ht _ zw_93) (ht _ zw_97) (Nat.le_of_ble_eq_true rfl) (Nat.le_of_ble_eq_true rfl) (Nat.zero_le _) (Nat.zero_le _) dX4_chooseSteps_16 ?_
  refine lv_istore (lv' := [(4, .int (if x2 < (((a_X_now_settings 0) * x1) + 1) then x2 else (((a_X_now_settings 0) * x1) + 1))), (3, .int (a_X_now_settings 0)), (0, .ref q_X_plan), (1, .int x1), (2, .int x2)]) hx hb dX4_chooseSteps_19 hl (by decide) rfl (fun ls hl => ?_)
  refine lv_iconst (v := 0) hx hb dX4_chooseSteps_21 (by decide) ?_
  refine lv_istore (lv' := [(5, .int 0), (4, .int (if x2 < (((a_X_now_settings 0) * x1) + 1) then x2 else (((a_X_now_settings 0) * x1) + 1))), (3, .int (a_X_now_settings 0)), (0, .ref q_X_plan), (1, .int x1), (2, .int x2)]) hx hb dX4_chooseSteps_22 hl (by decide) rfl (fun ls hl => ?_)
  exact B24 zF (a_X_now_settings 0) (if x2 < (((a_X_now_settings 0) * x1) + 1) then x2 else (((a_X_now_settings 0) * x1) + 1)) 0 a_X_plan_most a_X_plan_steps _ _ _ (lv_sub hl [3, 4, 2, 1, 0] rfl) hP hD hS hg

/-! SpokenClock$Plan.payDues(I)V -/
abbrev ws_X4_payDues (cI cJ cZ cA : ClassId) (q_X_plan q_X_now q_X_now_dues q_X_now_dues_cells q_X_plan_most : Nat) (u_X_plan_steps : Value) (u_X_plan_price : Value) (u_X_plan_isStale : Value) (u_X_now_people : Value) (u_X_now_talks : Value) (u_X_now_sights : Value) (u_X_now_rule : Value) (u_X_now_settings : Value) (u_X_now_stake : Value) (u_X_now_dues_limit : Value) (N_X_now_dues_cells : Nat) (v_X_now_dues_width : Int32) (v_X_now_dues_size : Int32) (a_X_now_dues_cells : Nat → Int32) (a_X_plan_most : Nat → Int32) : va_W := [(q_X_plan, .inr (4, [.ref q_X_now, .ref q_X_plan_most, u_X_plan_steps, u_X_plan_price, u_X_plan_isStale])), (q_X_now, .inr (9, [u_X_now_people, u_X_now_talks, .ref q_X_now_dues, u_X_now_sights, u_X_now_rule, u_X_now_settings, u_X_now_stake])), (q_X_now_dues, .inr (7, [.int v_X_now_dues_width, u_X_now_dues_limit, .ref q_X_now_dues_cells, .int v_X_now_dues_size])), (q_X_now_dues_cells, .inl (cI, N_X_now_dues_cells, .inl a_X_now_dues_cells)), (q_X_plan_most, .inl (cI, 100, .inl a_X_plan_most))]
abbrev rm_X4_payDues : Room := { frames := 1, cells := 0, slots := 0, locals := 32 }
def g_X4_payDues_87 (N_X_now_dues_cells : Nat) (v_X_now_dues_width : Int32) (v_X_now_dues_size : Int32) (a_X_now_dues_cells : Nat → Int32) (x1 : Int32) (k2 : Int32 → (Nat → Int32) → Option ((Nat → Int32))) (x2 : Int32) (a_X_plan_most : Nat → Int32) : Option ((Nat → Int32)) :=
  k2 (x2 + 1) a_X_plan_most
def g_X4_payDues_63b (N_X_now_dues_cells : Nat) (v_X_now_dues_width : Int32) (v_X_now_dues_size : Int32) (a_X_now_dues_cells : Nat → Int32) (x1 : Int32) (k2 : Int32 → (Nat → Int32) → Option ((Nat → Int32))) (k63 : Int32 → Int32 → Int32 → (Nat → Int32) → Option ((Nat → Int32))) (x2 : Int32) (x3 : Int32) (x4 : Int32) (a_X_plan_most : Nat → Int32) : Option ((Nat → Int32)) :=
  if 99 < x4 then (
    g_X4_payDues_87 N_X_now_dues_cells v_X_now_dues_width v_X_now_dues_size a_X_now_dues_cells x1 k2 x2 a_X_plan_most
  ) else (
    if x4 < 0 ∨ 100 ≤ x4.toNatClampNeg then none else
    if x4 < 0 ∨ 100 ≤ x4.toNatClampNeg then none else
    k63 x2 x3 (x4 + 1) (upd a_X_plan_most (x4.toNatClampNeg) ((a_X_plan_most (x4.toNatClampNeg)) + x3))
  )
def g_X4_payDues_63 (N_X_now_dues_cells : Nat) (v_X_now_dues_width : Int32) (v_X_now_dues_size : Int32) (a_X_now_dues_cells : Nat → Int32) (x1 : Int32) (k2 : Int32 → (Nat → Int32) → Option ((Nat → Int32))) : Nat → Int32 → Int32 → Int32 → (Nat → Int32) → Option ((Nat → Int32))
  | 0, _, _, _, _ => none
  | n + 1, x2, x3, x4, a_X_plan_most => g_X4_payDues_63b N_X_now_dues_cells v_X_now_dues_width v_X_now_dues_size a_X_now_dues_cells x1 k2 (g_X4_payDues_63 N_X_now_dues_cells v_X_now_dues_width v_X_now_dues_size a_X_now_dues_cells x1 k2 n) x2 x3 x4 a_X_plan_most
def g_X4_payDues_2b (N_X_now_dues_cells : Nat) (v_X_now_dues_width : Int32) (v_X_now_dues_size : Int32) (a_X_now_dues_cells : Nat → Int32) (x1 : Int32) (k2 : Int32 → (Nat → Int32) → Option ((Nat → Int32))) (x2 : Int32) (a_X_plan_most : Nat → Int32) : Option ((Nat → Int32)) :=
  (g_X7_size v_X_now_dues_size).bind fun v1 =>
  if v1 ≤ x2 then (
    some (a_X_plan_most)
  ) else (
    (g_X7_at N_X_now_dues_cells v_X_now_dues_width v_X_now_dues_size a_X_now_dues_cells x2 1).bind fun v3 =>
    if v3 = x1 then (
      (g_X7_at N_X_now_dues_cells v_X_now_dues_width v_X_now_dues_size a_X_now_dues_cells x2 2).bind fun v5 =>
      (g_X7_at N_X_now_dues_cells v_X_now_dues_width v_X_now_dues_size a_X_now_dues_cells x2 0).bind fun v7 =>
      g_X4_payDues_63 N_X_now_dues_cells v_X_now_dues_width v_X_now_dues_size a_X_now_dues_cells x1 k2 zF x2 v5 (if v7 < (0 : Int32) then (0 : Int32) else v7) a_X_plan_most
    ) else (
      g_X4_payDues_87 N_X_now_dues_cells v_X_now_dues_width v_X_now_dues_size a_X_now_dues_cells x1 k2 x2 a_X_plan_most
    )
  )
def g_X4_payDues_2 (N_X_now_dues_cells : Nat) (v_X_now_dues_width : Int32) (v_X_now_dues_size : Int32) (a_X_now_dues_cells : Nat → Int32) (x1 : Int32) : Nat → Int32 → (Nat → Int32) → Option ((Nat → Int32))
  | 0, _, _ => none
  | n + 1, x2, a_X_plan_most => g_X4_payDues_2b N_X_now_dues_cells v_X_now_dues_width v_X_now_dues_size a_X_now_dues_cells x1 (g_X4_payDues_2 N_X_now_dues_cells v_X_now_dues_width v_X_now_dues_size a_X_now_dues_cells x1 n) x2 a_X_plan_most
def g_X4_payDues (N_X_now_dues_cells : Nat) (v_X_now_dues_width : Int32) (v_X_now_dues_size : Int32) (a_X_now_dues_cells : Nat → Int32) (x1 : Int32) (a_X_plan_most : Nat → Int32) : Option ((Nat → Int32)) :=
  g_X4_payDues_2 N_X_now_dues_cells v_X_now_dues_width v_X_now_dues_size a_X_now_dues_cells x1 zF 0 a_X_plan_most
theorem hd_X4_payDues : yX4_payDues.cls = RX4 ∧ yX4_payDues.cls ≠ "java/lang/invoke/MethodHandle" ∧ yX4_payDues.cls ≠ "java/lang/invoke/VarHandle" ∧ (parseMethodDescriptor yX4_payDues.desc).map (fun d => d.parameters.length) = some 1 := by decide +kernel
set_option maxHeartbeats 4000000 in
set_option maxRecDepth 100000 in
theorem c_X4_payDues (l : Launch) (D : va_G) (cI cJ cZ cA : ClassId) (ga : Nat → Nat) (q_X_plan q_X_now q_X_now_dues q_X_now_dues_cells q_X_plan_most : Nat) (u_X_plan_steps : Value) (u_X_plan_price : Value) (u_X_plan_isStale : Value) (u_X_now_people : Value) (u_X_now_talks : Value) (u_X_now_sights : Value) (u_X_now_rule : Value) (u_X_now_settings : Value) (u_X_now_stake : Value) (u_X_now_dues_limit : Value) (N_X_now_dues_cells : Nat) (v_X_now_dues_width : Int32) (v_X_now_dues_size : Int32) (a_X_now_dues_cells : Nat → Int32) (a_X_plan_most : Nat → Int32) (x1 : Int32) (o : (Nat → Int32)) (hg : g_X4_payDues N_X_now_dues_cells v_X_now_dues_width v_X_now_dues_size a_X_now_dues_cells x1 a_X_plan_most = some o) : zM l yX4_payDues (Cond.code yX4_payDues cX4_payDues 5 none :: wsL_law) rm_X4_payDues D (zTy cI cJ cZ cA) ga [.ref q_X_plan, .int x1] (ws_X4_payDues cI cJ cZ cA q_X_plan q_X_now q_X_now_dues q_X_now_dues_cells q_X_plan_most u_X_plan_steps u_X_plan_price u_X_plan_isStale u_X_now_people u_X_now_talks u_X_now_sights u_X_now_rule u_X_now_settings u_X_now_stake u_X_now_dues_limit N_X_now_dues_cells v_X_now_dues_width v_X_now_dues_size a_X_now_dues_cells a_X_plan_most) (ws_X4_payDues cI cJ cZ cA q_X_plan q_X_now q_X_now_dues q_X_now_dues_cells q_X_plan_most u_X_plan_steps u_X_plan_price u_X_plan_isStale u_X_now_people u_X_now_talks u_X_now_sights u_X_now_rule u_X_now_settings u_X_now_stake u_X_now_dues_limit N_X_now_dues_cells v_X_now_dues_width v_X_now_dues_size a_X_now_dues_cells o) none := by
  refine zenterV (own := RX4) (by decide) rfl rfl (Nat.le_of_ble_eq_true rfl) ?_
  intro p e s m args below meth c A ls Q S hA hK hG hl hP hD hS hret0
  have hx := S.1
  have hb := S.2.1
  have ht : ∀ w, w ∈ wsL_law → w.before args s = true := fun w h => S.2.2.2.2 w (List.mem_cons_of_mem _ h)
  have hret : ∀ (a_X_plan_most : Nat → Int32), (some (a_X_plan_most) : Option ((Nat → Int32))) = some o → ∀ (H : Heap) (locs : List Loc) (pc : Nat) (ls : Array Slot), va_P D vwCl (ws_X4_payDues cI cJ cZ cA q_X_plan q_X_now q_X_now_dues q_X_now_dues_cells q_X_plan_most u_X_plan_steps u_X_plan_price u_X_plan_isStale u_X_now_people u_X_now_talks u_X_now_sights u_X_now_rule u_X_now_settings u_X_now_stake u_X_now_dues_limit N_X_now_dues_cells v_X_now_dues_width v_X_now_dues_size a_X_now_dues_cells a_X_plan_most) H → va_S A s.heap H locs → decode cX4_payDues pc = .ok (.return_, 1) → W p l e rm_X4_payDues s m args below meth c H locs 0 0 Q (F0 m pc ls []) := by
    intro a_X_plan_most he; cases he; exact hret0
  have hl : lv_has ls 5 [(0, .ref q_X_plan), (1, .int x1)] := hl
  have B87 : ∀ (k2 : Int32 → (Nat → Int32) → Option ((Nat → Int32))) (hk2 : ∀ (x2 : Int32) (a_X_plan_most : Nat → Int32) (H : Heap) (locs : List Loc) (ls : Array Slot) (hl : lv_has ls 5 [(0, .ref q_X_plan), (1, .int x1), (2, .int x2)]) (hP : va_P D vwCl (ws_X4_payDues cI cJ cZ cA q_X_plan q_X_now q_X_now_dues q_X_now_dues_cells q_X_plan_most u_X_plan_steps u_X_plan_price u_X_plan_isStale u_X_now_people u_X_now_talks u_X_now_sights u_X_now_rule u_X_now_settings u_X_now_stake u_X_now_dues_limit N_X_now_dues_cells v_X_now_dues_width v_X_now_dues_size a_X_now_dues_cells a_X_plan_most) H) (hD : va_D A (ws_X4_payDues cI cJ cZ cA q_X_plan q_X_now q_X_now_dues q_X_now_dues_cells q_X_plan_most u_X_plan_steps u_X_plan_price u_X_plan_isStale u_X_now_people u_X_now_talks u_X_now_sights u_X_now_rule u_X_now_settings u_X_now_stake u_X_now_dues_limit N_X_now_dues_cells v_X_now_dues_width v_X_now_dues_size a_X_now_dues_cells a_X_plan_most)) (hS : va_S A s.heap H locs), k2 x2 a_X_plan_most = some o → W p l e rm_X4_payDues s m args below meth c H locs 0 0 Q (F0 m 2 ls [])) (x2 : Int32) (a_X_plan_most : Nat → Int32) (H : Heap) (locs : List Loc) (ls : Array Slot) (hl : lv_has ls 5 [(0, .ref q_X_plan), (1, .int x1), (2, .int x2)]) (hP : va_P D vwCl (ws_X4_payDues cI cJ cZ cA q_X_plan q_X_now q_X_now_dues q_X_now_dues_cells q_X_plan_most u_X_plan_steps u_X_plan_price u_X_plan_isStale u_X_now_people u_X_now_talks u_X_now_sights u_X_now_rule u_X_now_settings u_X_now_stake u_X_now_dues_limit N_X_now_dues_cells v_X_now_dues_width v_X_now_dues_size a_X_now_dues_cells a_X_plan_most) H) (hD : va_D A (ws_X4_payDues cI cJ cZ cA q_X_plan q_X_now q_X_now_dues q_X_now_dues_cells q_X_plan_most u_X_plan_steps u_X_plan_price u_X_plan_isStale u_X_now_people u_X_now_talks u_X_now_sights u_X_now_rule u_X_now_settings u_X_now_stake u_X_now_dues_limit N_X_now_dues_cells v_X_now_dues_width v_X_now_dues_size a_X_now_dues_cells a_X_plan_most)) (hS : va_S A s.heap H locs), g_X4_payDues_87 N_X_now_dues_cells v_X_now_dues_width v_X_now_dues_size a_X_now_dues_cells x1 k2 x2 a_X_plan_most = some o → W p l e rm_X4_payDues s m args below meth c H locs 0 0 Q (F0 m 87 ls []) := by
    intro k2 hk2 x2 a_X_plan_most H locs ls hl hP hD hS hg
    refine lv_iinc (k := 2) (v := x2 + 1) (lv' := [(2, .int (x2 + 1)), (0, .ref q_X_plan), (1, .int x1)]) hx hb dX4_payDues_87 hl rfl (zinc (by decide)) (by decide) rfl (fun ls hl => ?_)
    refine lv_goto (tgt := 2) hx hb dX4_payDues_90 (by decide) ?_
    exact hk2 (x2 + 1) a_X_plan_most _ _ _ (lv_sub hl [1, 2, 0] rfl) hP hD hS hg
  have B63 : ∀ (k2 : Int32 → (Nat → Int32) → Option ((Nat → Int32))) (hk2 : ∀ (x2 : Int32) (a_X_plan_most : Nat → Int32) (H : Heap) (locs : List Loc) (ls : Array Slot) (hl : lv_has ls 5 [(0, .ref q_X_plan), (1, .int x1), (2, .int x2)]) (hP : va_P D vwCl (ws_X4_payDues cI cJ cZ cA q_X_plan q_X_now q_X_now_dues q_X_now_dues_cells q_X_plan_most u_X_plan_steps u_X_plan_price u_X_plan_isStale u_X_now_people u_X_now_talks u_X_now_sights u_X_now_rule u_X_now_settings u_X_now_stake u_X_now_dues_limit N_X_now_dues_cells v_X_now_dues_width v_X_now_dues_size a_X_now_dues_cells a_X_plan_most) H) (hD : va_D A (ws_X4_payDues cI cJ cZ cA q_X_plan q_X_now q_X_now_dues q_X_now_dues_cells q_X_plan_most u_X_plan_steps u_X_plan_price u_X_plan_isStale u_X_now_people u_X_now_talks u_X_now_sights u_X_now_rule u_X_now_settings u_X_now_stake u_X_now_dues_limit N_X_now_dues_cells v_X_now_dues_width v_X_now_dues_size a_X_now_dues_cells a_X_plan_most)) (hS : va_S A s.heap H locs), k2 x2 a_X_plan_most = some o → W p l e rm_X4_payDues s m args below meth c H locs 0 0 Q (F0 m 2 ls []))  (n : Nat) (x2 : Int32) (x3 : Int32) (x4 : Int32) (a_X_plan_most : Nat → Int32) (H : Heap) (locs : List Loc) (ls : Array Slot) (hl : lv_has ls 5 [(0, .ref q_X_plan), (1, .int x1), (2, .int x2), (3, .int x3), (4, .int x4)]) (hP : va_P D vwCl (ws_X4_payDues cI cJ cZ cA q_X_plan q_X_now q_X_now_dues q_X_now_dues_cells q_X_plan_most u_X_plan_steps u_X_plan_price u_X_plan_isStale u_X_now_people u_X_now_talks u_X_now_sights u_X_now_rule u_X_now_settings u_X_now_stake u_X_now_dues_limit N_X_now_dues_cells v_X_now_dues_width v_X_now_dues_size a_X_now_dues_cells a_X_plan_most) H) (hD : va_D A (ws_X4_payDues cI cJ cZ cA q_X_plan q_X_now q_X_now_dues q_X_now_dues_cells q_X_plan_most u_X_plan_steps u_X_plan_price u_X_plan_isStale u_X_now_people u_X_now_talks u_X_now_sights u_X_now_rule u_X_now_settings u_X_now_stake u_X_now_dues_limit N_X_now_dues_cells v_X_now_dues_width v_X_now_dues_size a_X_now_dues_cells a_X_plan_most)) (hS : va_S A s.heap H locs), g_X4_payDues_63 N_X_now_dues_cells v_X_now_dues_width v_X_now_dues_size a_X_now_dues_cells x1 k2 n x2 x3 x4 a_X_plan_most = some o → W p l e rm_X4_payDues s m args below meth c H locs 0 0 Q (F0 m 63 ls []) := by
    intro k2 hk2 n
    induction n with
    | zero => intro x2 x3 x4 a_X_plan_most H locs ls hl hP hD hS hg; exact nomatch (show (none : Option ((Nat → Int32))) = some o from hg)
    | succ n ih =>
      intro x2 x3 x4 a_X_plan_most H locs ls hl hP hD hS hg
      have hg : g_X4_payDues_63b N_X_now_dues_cells v_X_now_dues_width v_X_now_dues_size a_X_now_dues_cells x1 k2 (g_X4_payDues_63 N_X_now_dues_cells v_X_now_dues_width v_X_now_dues_size a_X_now_dues_cells x1 k2 n) x2 x3 x4 a_X_plan_most = some o := hg
      refine lv_iload hx hb dX4_payDues_63 (lv_at hl 4 rfl) ?_
      refine lv_bipush (v := 99) hx hb dX4_payDues_65 (by decide) ?_
      refine lv_icmp_gt (tgt := 87) hx hb dX4_payDues_67 (by decide) (fun h67 => ?_) (fun h67 => ?_)
      · have hg := zp hg h67
        exact B87 k2 hk2 x2 a_X_plan_most _ _ _ (lv_sub hl [0, 1, 2] rfl) hP hD hS hg
      · have hg := zn hg h67
        refine lv_aload_n hx hb dX4_payDues_70 rfl (lv_at hl 0 rfl) ?_
        refine zget (C := RX4) (T := TX4) (N := 5) S hK hP 0 rfl rfl 1 (Nat.le_of_ble_eq_true rfl) zf_4 zw_133 rfl dX4_payDues_71 ?_
        refine lv_iload hx hb dX4_payDues_74 (lv_at hl 4 rfl) ?_
        refine lv_dup2_11 hx hb dX4_payDues_76 rfl rfl ?_
        obtain ⟨h9, hg⟩ := zck hg
        refine ziald hx hb hK hP 4 0 rfl rfl (j := (x4.toNatClampNeg)) h9 rfl dX4_payDues_77 ?_
        refine lv_iload_n hx hb dX4_payDues_78 rfl (lv_at hl 3 rfl) ?_
        refine lv_iadd hx hb dX4_payDues_79 ?_
        obtain ⟨h10, hg⟩ := zck hg
        refine ziast hx hb hK hP hD hS 4 0 rfl rfl (j := (x4.toNatClampNeg)) h10 rfl dX4_payDues_80 (w2 := (ws_X4_payDues cI cJ cZ cA q_X_plan q_X_now q_X_now_dues q_X_now_dues_cells q_X_plan_most u_X_plan_steps u_X_plan_price u_X_plan_isStale u_X_now_people u_X_now_talks u_X_now_sights u_X_now_rule u_X_now_settings u_X_now_stake u_X_now_dues_limit N_X_now_dues_cells v_X_now_dues_width v_X_now_dues_size a_X_now_dues_cells (upd a_X_plan_most (x4.toNatClampNeg) ((a_X_plan_most (x4.toNatClampNeg)) + x3)))) rfl (fun H locs hP hD hS => ?_)
        refine lv_iinc (k := 4) (v := x4 + 1) (lv' := [(4, .int (x4 + 1)), (0, .ref q_X_plan), (1, .int x1), (2, .int x2), (3, .int x3)]) hx hb dX4_payDues_81 hl rfl (zinc (by decide)) (by decide) rfl (fun ls hl => ?_)
        refine lv_goto (tgt := 63) hx hb dX4_payDues_84 (by decide) ?_
        exact ih x2 x3 (x4 + 1) (upd a_X_plan_most (x4.toNatClampNeg) ((a_X_plan_most (x4.toNatClampNeg)) + x3)) _ _ _ (lv_sub hl [1, 2, 3, 4, 0] rfl) hP hD hS hg
  have B2 : ∀  (n : Nat) (x2 : Int32) (a_X_plan_most : Nat → Int32) (H : Heap) (locs : List Loc) (ls : Array Slot) (hl : lv_has ls 5 [(0, .ref q_X_plan), (1, .int x1), (2, .int x2)]) (hP : va_P D vwCl (ws_X4_payDues cI cJ cZ cA q_X_plan q_X_now q_X_now_dues q_X_now_dues_cells q_X_plan_most u_X_plan_steps u_X_plan_price u_X_plan_isStale u_X_now_people u_X_now_talks u_X_now_sights u_X_now_rule u_X_now_settings u_X_now_stake u_X_now_dues_limit N_X_now_dues_cells v_X_now_dues_width v_X_now_dues_size a_X_now_dues_cells a_X_plan_most) H) (hD : va_D A (ws_X4_payDues cI cJ cZ cA q_X_plan q_X_now q_X_now_dues q_X_now_dues_cells q_X_plan_most u_X_plan_steps u_X_plan_price u_X_plan_isStale u_X_now_people u_X_now_talks u_X_now_sights u_X_now_rule u_X_now_settings u_X_now_stake u_X_now_dues_limit N_X_now_dues_cells v_X_now_dues_width v_X_now_dues_size a_X_now_dues_cells a_X_plan_most)) (hS : va_S A s.heap H locs), g_X4_payDues_2 N_X_now_dues_cells v_X_now_dues_width v_X_now_dues_size a_X_now_dues_cells x1 n x2 a_X_plan_most = some o → W p l e rm_X4_payDues s m args below meth c H locs 0 0 Q (F0 m 2 ls []) := by
    intro  n
    induction n with
    | zero => intro x2 a_X_plan_most H locs ls hl hP hD hS hg; exact nomatch (show (none : Option ((Nat → Int32))) = some o from hg)
    | succ n ih =>
      intro x2 a_X_plan_most H locs ls hl hP hD hS hg
      have hg : g_X4_payDues_2b N_X_now_dues_cells v_X_now_dues_width v_X_now_dues_size a_X_now_dues_cells x1 (g_X4_payDues_2 N_X_now_dues_cells v_X_now_dues_width v_X_now_dues_size a_X_now_dues_cells x1 n) x2 a_X_plan_most = some o := hg
      refine lv_iload_n hx hb dX4_payDues_2 rfl (lv_at hl 2 rfl) ?_
      refine lv_aload_n hx hb dX4_payDues_3 rfl (lv_at hl 0 rfl) ?_
      refine zget (C := RX4) (T := TX4) (N := 5) S hK hP 0 rfl rfl 0 (Nat.le_of_ble_eq_true rfl) zf_4 zw_136 rfl dX4_payDues_4 ?_
      refine zget (C := RX9) (T := TX9) (N := 7) S hK hP 1 rfl rfl 2 (Nat.le_of_ble_eq_true rfl) zf_9 zw_789 rfl dX4_payDues_7 ?_
      obtain ⟨v1, hc2, hg⟩ := zbd hg
      refine zcallV (rest := [.int x2]) S (c_X7_size l D cI cJ cZ cA ga q_X_now_dues (.int v_X_now_dues_width) u_X_now_dues_limit (.ref q_X_now_dues_cells) v_X_now_dues_size v1 hc2) (zgV zw_801 zw_180 zw_181 zw_32 zw_182) rfl hd_X7_size ⟨rfl, rfl⟩ ⟨Nat.le_of_ble_eq_true rfl, Nat.le_of_ble_eq_true rfl⟩ 2 7 rfl rfl rfl hl.1 rfl (Nat.le_of_ble_eq_true rfl) dX4_payDues_10 hP hD hS hA hK hG (isC := [2]) rfl (by decide +kernel) rfl ⟨Nat.zero_le _, Nat.zero_le _⟩ (pl := [none, none, some 0, none, none]) (nw := 5) rfl (by decide +kernel) (w2 := (ws_X4_payDues cI cJ cZ cA q_X_plan q_X_now q_X_now_dues q_X_now_dues_cells q_X_plan_most u_X_plan_steps u_X_plan_price u_X_plan_isStale u_X_now_people u_X_now_talks u_X_now_sights u_X_now_rule u_X_now_settings u_X_now_stake u_X_now_dues_limit N_X_now_dues_cells v_X_now_dues_width v_X_now_dues_size a_X_now_dues_cells a_X_plan_most)) rfl (st1 := [.int v1, .int x2]) rfl (fun H locs hP hD hS => ?_)
      refine lv_icmp_ge (tgt := 93) hx hb dX4_payDues_13 (by decide) (fun h13 => ?_) (fun h13 => ?_)
      · have hg := zp hg h13
        exact hret a_X_plan_most hg _ _ _ _ hP hS dX4_payDues_93
      · have hg := zn hg h13
        refine lv_aload_n hx hb dX4_payDues_16 rfl (lv_at hl 0 rfl) ?_
        refine zget (C := RX4) (T := TX4) (N := 5) S hK hP 0 rfl rfl 0 (Nat.le_of_ble_eq_true rfl) zf_4 zw_136 rfl dX4_payDues_17 ?_
        refine zget (C := RX9) (T := TX9) (N := 7) S hK hP 1 rfl rfl 2 (Nat.le_of_ble_eq_true rfl) zf_9 zw_789 rfl dX4_payDues_20 ?_
        refine lv_iload_n hx hb dX4_payDues_23 rfl (lv_at hl 2 rfl) ?_
        refine lv_iconst (v := 1) hx hb dX4_payDues_24 (by decide) ?_
        obtain ⟨v3, hc4, hg⟩ := zbd hg
        refine zcallV (rest := []) S (c_X7_at l D cI cJ cZ cA ga q_X_now_dues q_X_now_dues_cells u_X_now_dues_limit N_X_now_dues_cells v_X_now_dues_width v_X_now_dues_size a_X_now_dues_cells x2 1 v3 hc4) (zgV zw_802 zw_353 zw_354 zw_32 zw_355) rfl hd_X7_at ⟨rfl, rfl⟩ ⟨Nat.le_of_ble_eq_true rfl, Nat.le_of_ble_eq_true rfl⟩ 2 7 rfl rfl rfl hl.1 rfl (Nat.le_of_ble_eq_true rfl) dX4_payDues_25 hP hD hS hA hK hG (isC := [2, 3]) rfl (by decide +kernel) rfl ⟨Nat.zero_le _, Nat.zero_le _⟩ (pl := [none, none, some 0, some 1, none]) (nw := 5) rfl (by decide +kernel) (w2 := (ws_X4_payDues cI cJ cZ cA q_X_plan q_X_now q_X_now_dues q_X_now_dues_cells q_X_plan_most u_X_plan_steps u_X_plan_price u_X_plan_isStale u_X_now_people u_X_now_talks u_X_now_sights u_X_now_rule u_X_now_settings u_X_now_stake u_X_now_dues_limit N_X_now_dues_cells v_X_now_dues_width v_X_now_dues_size a_X_now_dues_cells a_X_plan_most)) rfl (st1 := [.int v3]) rfl (fun H locs hP hD hS => ?_)
        refine lv_iload_n hx hb dX4_payDues_28 rfl (lv_at hl 1 rfl) ?_
        refine lv_icmp_ne (tgt := 87) hx hb dX4_payDues_29 (by decide) (fun h29 => ?_) (fun h29 => ?_)
        · have hg := zn hg h29
          exact B87 (g_X4_payDues_2 N_X_now_dues_cells v_X_now_dues_width v_X_now_dues_size a_X_now_dues_cells x1 n) ih x2 a_X_plan_most _ _ _ hl hP hD hS hg
        · have hg := zp hg h29
          refine lv_aload_n hx hb dX4_payDues_32 rfl (lv_at hl 0 rfl) ?_
          refine zget (C := RX4) (T := TX4) (N := 5) S hK hP 0 rfl rfl 0 (Nat.le_of_ble_eq_true rfl) zf_4 zw_136 rfl dX4_payDues_33 ?_
          refine zget (C := RX9) (T := TX9) (N := 7) S hK hP 1 rfl rfl 2 (Nat.le_of_ble_eq_true rfl) zf_9 zw_789 rfl dX4_payDues_36 ?_
          refine lv_iload_n hx hb dX4_payDues_39 rfl (lv_at hl 2 rfl) ?_
          refine lv_iconst (v := 2) hx hb dX4_payDues_40 (by decide) ?_
          obtain ⟨v5, hc6, hg⟩ := zbd hg
          refine zcallV (rest := []) S (c_X7_at l D cI cJ cZ cA ga q_X_now_dues q_X_now_dues_cells u_X_now_dues_limit N_X_now_dues_cells v_X_now_dues_width v_X_now_dues_size a_X_now_dues_cells x2 2 v5 hc6) (zgV zw_802 zw_353 zw_354 zw_32 zw_355) rfl hd_X7_at ⟨rfl, rfl⟩ ⟨Nat.le_of_ble_eq_true rfl, Nat.le_of_ble_eq_true rfl⟩ 2 7 rfl rfl rfl hl.1 rfl (Nat.le_of_ble_eq_true rfl) dX4_payDues_41 hP hD hS hA hK hG (isC := [2, 3]) rfl (by decide +kernel) rfl ⟨Nat.zero_le _, Nat.zero_le _⟩ (pl := [none, none, some 0, some 1, none]) (nw := 5) rfl (by decide +kernel) (w2 := (ws_X4_payDues cI cJ cZ cA q_X_plan q_X_now q_X_now_dues q_X_now_dues_cells q_X_plan_most u_X_plan_steps u_X_plan_price u_X_plan_isStale u_X_now_people u_X_now_talks u_X_now_sights u_X_now_rule u_X_now_settings u_X_now_stake u_X_now_dues_limit N_X_now_dues_cells v_X_now_dues_width v_X_now_dues_size a_X_now_dues_cells a_X_plan_most)) rfl (st1 := [.int v5]) rfl (fun H locs hP hD hS => ?_)
          refine lv_istore_n (lv' := [(3, .int v5), (0, .ref q_X_plan), (1, .int x1), (2, .int x2)]) hx hb dX4_payDues_44 rfl hl (by decide) rfl (fun ls hl => ?_)
          refine lv_aload_n hx hb dX4_payDues_45 rfl (lv_at hl 1 rfl) ?_
          refine zget (C := RX4) (T := TX4) (N := 5) S hK hP 0 rfl rfl 0 (Nat.le_of_ble_eq_true rfl) zf_4 zw_136 rfl dX4_payDues_46 ?_
          refine zget (C := RX9) (T := TX9) (N := 7) S hK hP 1 rfl rfl 2 (Nat.le_of_ble_eq_true rfl) zf_9 zw_789 rfl dX4_payDues_49 ?_
          refine lv_iload_n hx hb dX4_payDues_52 rfl (lv_at hl 3 rfl) ?_
          refine lv_iconst (v := 0) hx hb dX4_payDues_53 (by decide) ?_
          obtain ⟨v7, hc8, hg⟩ := zbd hg
          refine zcallV (rest := []) S (c_X7_at l D cI cJ cZ cA ga q_X_now_dues q_X_now_dues_cells u_X_now_dues_limit N_X_now_dues_cells v_X_now_dues_width v_X_now_dues_size a_X_now_dues_cells x2 0 v7 hc8) (zgV zw_802 zw_353 zw_354 zw_32 zw_355) rfl hd_X7_at ⟨rfl, rfl⟩ ⟨Nat.le_of_ble_eq_true rfl, Nat.le_of_ble_eq_true rfl⟩ 2 7 rfl rfl rfl hl.1 rfl (Nat.le_of_ble_eq_true rfl) dX4_payDues_54 hP hD hS hA hK hG (isC := [2, 3]) rfl (by decide +kernel) rfl ⟨Nat.zero_le _, Nat.zero_le _⟩ (pl := [none, none, some 0, some 1, none]) (nw := 5) rfl (by decide +kernel) (w2 := (ws_X4_payDues cI cJ cZ cA q_X_plan q_X_now q_X_now_dues q_X_now_dues_cells q_X_plan_most u_X_plan_steps u_X_plan_price u_X_plan_isStale u_X_now_people u_X_now_talks u_X_now_sights u_X_now_rule u_X_now_settings u_X_now_stake u_X_now_dues_limit N_X_now_dues_cells v_X_now_dues_width v_X_now_dues_size a_X_now_dues_cells a_X_plan_most)) rfl (st1 := [.int v7]) rfl (fun H locs hP hD hS => ?_)
          refine lv_iconst (v := 0) hx hb dX4_payDues_57 (by decide) ?_
          refine va_mmax hx hb (S.2.2.1.trans hl.1.symm) S.2.2.2.1 (ht _ zw_800) (ht _ zw_92) (ht _ zw_93) (ht _ zw_94) (Nat.le_of_ble_eq_true rfl) (Nat.le_of_ble_eq_true rfl) (Nat.zero_le _) (Nat.zero_le _) dX4_payDues_58 ?_
          refine lv_istore (lv' := [(4, .int (if v7 < (0 : Int32) then (0 : Int32) else v7)), (3, .int v5), (0, .ref q_X_plan), (1, .int x1), (2, .int x2)]) hx hb dX4_payDues_61 hl (by decide) rfl (fun ls hl => ?_)
          exact B63 (g_X4_payDues_2 N_X_now_dues_cells v_X_now_dues_width v_X_now_dues_size a_X_now_dues_cells x1 n) ih zF x2 v5 (if v7 < (0 : Int32) then (0 : Int32) else v7) a_X_plan_most _ _ _ (lv_sub hl [2, 3, 4, 1, 0] rfl) hP hD hS hg
  refine lv_iconst (v := 0) hx hb dX4_payDues_0 (by decide) ?_
  refine lv_istore_n (lv' := [(2, .int 0), (0, .ref q_X_plan), (1, .int x1)]) hx hb dX4_payDues_1 rfl hl (by decide) rfl (fun ls hl => ?_)
  exact B2 zF 0 a_X_plan_most _ _ _ (lv_sub hl [1, 2, 0] rfl) hP hD hS hg

/-! java/util/Arrays.fill([JJ)V -/
abbrev ws_J7_fill_d0a16 (cI cJ cZ cA : ClassId) (q_p0 : Nat) (N_p0 : Nat) (a_p0 : Nat → Int64) : va_W := [(q_p0, .inl (cJ, N_p0, .inr (.inl a_p0)))]
abbrev rm_J7_fill_d0a16 : Room := { frames := 0, cells := 0, slots := 0, locals := 0 }
def g_J7_fill_d0a16_6b (N_p0 : Nat) (x1 : Int64) (k6 : Int32 → Int32 → (Nat → Int64) → Option ((Nat → Int64))) (x3 : Int32) (x4 : Int32) (a_p0 : Nat → Int64) : Option ((Nat → Int64)) :=
  if x4 ≤ x3 then (
    some (a_p0)
  ) else (
    if x3 < 0 ∨ N_p0 ≤ x3.toNatClampNeg then none else
    k6 (x3 + 1) x4 (vp_updL a_p0 (x3.toNatClampNeg) x1)
  )
def g_J7_fill_d0a16_6 (N_p0 : Nat) (x1 : Int64) : Nat → Int32 → Int32 → (Nat → Int64) → Option ((Nat → Int64))
  | 0, _, _, _ => none
  | n + 1, x3, x4, a_p0 => g_J7_fill_d0a16_6b N_p0 x1 (g_J7_fill_d0a16_6 N_p0 x1 n) x3 x4 a_p0
def g_J7_fill_d0a16 (N_p0 : Nat) (x1 : Int64) (a_p0 : Nat → Int64) : Option ((Nat → Int64)) :=
  g_J7_fill_d0a16_6 N_p0 x1 zF 0 (Int32.ofNat N_p0) a_p0
theorem hd_J7_fill_d0a16 : yJ7_fill_d0a16.cls ≠ "java/lang/invoke/MethodHandle" ∧ yJ7_fill_d0a16.cls ≠ "java/lang/invoke/VarHandle" ∧ (parseMethodDescriptor yJ7_fill_d0a16.desc).map (fun d => d.parameters.length) = some 2 := by decide +kernel
set_option maxHeartbeats 4000000 in
set_option maxRecDepth 100000 in
theorem c_J7_fill_d0a16 (l : Launch) (D : va_G) (cI cJ cZ cA : ClassId) (ga : Nat → Nat) (q_p0 : Nat) (N_p0 : Nat) (a_p0 : Nat → Int64) (x1 : Int64) (o : (Nat → Int64)) (hg : g_J7_fill_d0a16 N_p0 x1 a_p0 = some o) : zM l yJ7_fill_d0a16 (Cond.code yJ7_fill_d0a16 cJ7_fill_d0a16 5 none :: wsL_law) rm_J7_fill_d0a16 D (zTy cI cJ cZ cA) ga [.ref q_p0, .long x1] (ws_J7_fill_d0a16 cI cJ cZ cA q_p0 N_p0 a_p0) (ws_J7_fill_d0a16 cI cJ cZ cA q_p0 N_p0 o) none := by
  refine zenterV (own := RJ7) (by decide) rfl rfl (Nat.le_of_ble_eq_true rfl) ?_
  intro p e s m args below meth c A ls Q S hA hK hG hl hP hD hS hret0
  have hx := S.1
  have hb := S.2.1
  have ht : ∀ w, w ∈ wsL_law → w.before args s = true := fun w h => S.2.2.2.2 w (List.mem_cons_of_mem _ h)
  have hret : ∀ (a_p0 : Nat → Int64), (some (a_p0) : Option ((Nat → Int64))) = some o → ∀ (H : Heap) (locs : List Loc) (pc : Nat) (ls : Array Slot), va_P D vwCl (ws_J7_fill_d0a16 cI cJ cZ cA q_p0 N_p0 a_p0) H → va_S A s.heap H locs → decode cJ7_fill_d0a16 pc = .ok (.return_, 1) → W p l e rm_J7_fill_d0a16 s m args below meth c H locs 0 0 Q (F0 m pc ls []) := by
    intro a_p0 he; cases he; exact hret0
  have hl : lv_has ls 5 [(0, .ref q_p0), (1, .long x1)] := hl
  have B6 : ∀  (n : Nat) (x3 : Int32) (x4 : Int32) (a_p0 : Nat → Int64) (H : Heap) (locs : List Loc) (ls : Array Slot) (hl : lv_has ls 5 [(0, .ref q_p0), (1, .long x1), (3, .int x3), (4, .int x4)]) (hP : va_P D vwCl (ws_J7_fill_d0a16 cI cJ cZ cA q_p0 N_p0 a_p0) H) (hD : va_D A (ws_J7_fill_d0a16 cI cJ cZ cA q_p0 N_p0 a_p0)) (hS : va_S A s.heap H locs), g_J7_fill_d0a16_6 N_p0 x1 n x3 x4 a_p0 = some o → W p l e rm_J7_fill_d0a16 s m args below meth c H locs 0 0 Q (F0 m 6 ls []) := by
    intro  n
    induction n with
    | zero => intro x3 x4 a_p0 H locs ls hl hP hD hS hg; exact nomatch (show (none : Option ((Nat → Int64))) = some o from hg)
    | succ n ih =>
      intro x3 x4 a_p0 H locs ls hl hP hD hS hg
      have hg : g_J7_fill_d0a16_6b N_p0 x1 (g_J7_fill_d0a16_6 N_p0 x1 n) x3 x4 a_p0 = some o := hg
      refine lv_iload_n hx hb dJ7_fill_d0a16_6 rfl (lv_at hl 2 rfl) ?_
      refine lv_iload hx hb dJ7_fill_d0a16_7 (lv_at hl 3 rfl) ?_
      refine lv_icmp_ge (tgt := 22) hx hb dJ7_fill_d0a16_9 (by decide) (fun h9 => ?_) (fun h9 => ?_)
      · have hg := zp hg h9
        exact hret a_p0 hg _ _ _ _ hP hS dJ7_fill_d0a16_22
      · have hg := zn hg h9
        refine lv_aload_n hx hb dJ7_fill_d0a16_12 rfl (lv_at hl 0 rfl) ?_
        refine lv_iload_n hx hb dJ7_fill_d0a16_13 rfl (lv_at hl 2 rfl) ?_
        refine lv_lload_n hx hb dJ7_fill_d0a16_14 rfl (lv_at hl 1 rfl) ?_
        obtain ⟨h1, hg⟩ := zck hg
        refine zlast hx hb hK hP hD hS 0 1 rfl rfl (j := (x3.toNatClampNeg)) h1 rfl dJ7_fill_d0a16_15 (w2 := (ws_J7_fill_d0a16 cI cJ cZ cA q_p0 N_p0 (vp_updL a_p0 (x3.toNatClampNeg) x1))) rfl (fun H locs hP hD hS => ?_)
        refine lv_iinc (k := 2) (v := x3 + 1) (lv' := [(3, .int (x3 + 1)), (0, .ref q_p0), (1, .long x1), (4, .int x4)]) hx hb dJ7_fill_d0a16_16 hl rfl (zinc (by decide)) (by decide) rfl (fun ls hl => ?_)
        refine lv_goto (tgt := 6) hx hb dJ7_fill_d0a16_19 (by decide) ?_
        exact ih (x3 + 1) x4 (vp_updL a_p0 (x3.toNatClampNeg) x1) _ _ _ (lv_sub hl [1, 2, 0, 3] rfl) hP hD hS hg
  refine lv_iconst (v := 0) hx hb dJ7_fill_d0a16_0 (by decide) ?_
  refine lv_istore_n (lv' := [(3, .int 0), (0, .ref q_p0), (1, .long x1)]) hx hb dJ7_fill_d0a16_1 rfl hl (by decide) rfl (fun ls hl => ?_)
  refine lv_aload_n hx hb dJ7_fill_d0a16_2 rfl (lv_at hl 1 rfl) ?_
  refine va_alen (v := Int32.ofNat N_p0) hx hb hK hP 0 1 rfl rfl rfl dJ7_fill_d0a16_3 ?_
  refine lv_istore (lv' := [(4, .int (Int32.ofNat N_p0)), (3, .int 0), (0, .ref q_p0), (1, .long x1)]) hx hb dJ7_fill_d0a16_4 hl (by decide) rfl (fun ls hl => ?_)
  exact B6 zF 0 (Int32.ofNat N_p0) a_p0 _ _ _ (lv_sub hl [2, 3, 1, 0] rfl) hP hD hS hg

/-! SpokenClock$Plan.refresh(I)V -/
abbrev ws_X4_refresh (cI cJ cZ cA : ClassId) (q_X_plan q_X_plan_most q_X_plan_steps q_X_now q_X_now_dues q_X_now_dues_cells q_X_now_settings : Nat) (u_X_now_people : Value) (u_X_now_talks : Value) (u_X_now_sights : Value) (u_X_now_rule : Value) (u_X_now_stake : Value) (u_X_now_dues_limit : Value) (N_X_now_dues_cells : Nat) (v_X_plan_price : Int32) (v_X_plan_isStale : Int32) (a_X_plan_most : Nat → Int32) (a_X_plan_steps : Nat → Int64) (v_X_now_dues_width : Int32) (v_X_now_dues_size : Int32) (a_X_now_dues_cells : Nat → Int32) (a_X_now_settings : Nat → Int32) : va_W := [(q_X_plan, .inr (4, [.ref q_X_now, .ref q_X_plan_most, .ref q_X_plan_steps, .int v_X_plan_price, .int v_X_plan_isStale])), (q_X_plan_most, .inl (cI, 100, .inl a_X_plan_most)), (q_X_plan_steps, .inl (cJ, 495, .inr (.inl a_X_plan_steps))), (q_X_now, .inr (9, [u_X_now_people, u_X_now_talks, .ref q_X_now_dues, u_X_now_sights, u_X_now_rule, .ref q_X_now_settings, u_X_now_stake])), (q_X_now_dues, .inr (7, [.int v_X_now_dues_width, u_X_now_dues_limit, .ref q_X_now_dues_cells, .int v_X_now_dues_size])), (q_X_now_dues_cells, .inl (cI, N_X_now_dues_cells, .inl a_X_now_dues_cells)), (q_X_now_settings, .inl (cI, 3, .inl a_X_now_settings))]
abbrev rm_X4_refresh : Room := { frames := 3, cells := 0, slots := 0, locals := 75 }
def g_X4_refresh_86b (N_X_now_dues_cells : Nat) (v_X_now_dues_width : Int32) (v_X_now_dues_size : Int32) (a_X_now_dues_cells : Nat → Int32) (a_X_now_settings : Nat → Int32) (x1 : Int32) (k86 : Int32 → Int32 → Int32 → Int32 → (Nat → Int32) → (Nat → Int64) → Option (Int32 × Int32 × (Nat → Int32) × (Nat → Int64))) (x3 : Int32) (x4 : Int32) (v_X_plan_price : Int32) (v_X_plan_isStale : Int32) (a_X_plan_most : Nat → Int32) (a_X_plan_steps : Nat → Int64) : Option (Int32 × Int32 × (Nat → Int32) × (Nat → Int64)) :=
  if x4 < 0 then (
    some (v_X_plan_price, v_X_plan_isStale, a_X_plan_most, a_X_plan_steps)
  ) else (
    (g_X4_chooseSteps v_X_plan_price a_X_now_settings x4 x3 a_X_plan_most a_X_plan_steps).bind fun v11 =>
    (g_X4_payDues N_X_now_dues_cells v_X_now_dues_width v_X_now_dues_size a_X_now_dues_cells x4 v11.1).bind fun v13 =>
    k86 x3 (x4 + (-1)) v_X_plan_price v_X_plan_isStale v13 v11.2
  )
def g_X4_refresh_86 (N_X_now_dues_cells : Nat) (v_X_now_dues_width : Int32) (v_X_now_dues_size : Int32) (a_X_now_dues_cells : Nat → Int32) (a_X_now_settings : Nat → Int32) (x1 : Int32) : Nat → Int32 → Int32 → Int32 → Int32 → (Nat → Int32) → (Nat → Int64) → Option (Int32 × Int32 × (Nat → Int32) × (Nat → Int64))
  | 0, _, _, _, _, _, _ => none
  | n + 1, x3, x4, v_X_plan_price, v_X_plan_isStale, a_X_plan_most, a_X_plan_steps => g_X4_refresh_86b N_X_now_dues_cells v_X_now_dues_width v_X_now_dues_size a_X_now_dues_cells a_X_now_settings x1 (g_X4_refresh_86 N_X_now_dues_cells v_X_now_dues_width v_X_now_dues_size a_X_now_dues_cells a_X_now_settings x1 n) x3 x4 v_X_plan_price v_X_plan_isStale a_X_plan_most a_X_plan_steps
def g_X4_refresh_16 (N_X_now_dues_cells : Nat) (v_X_now_dues_width : Int32) (v_X_now_dues_size : Int32) (a_X_now_dues_cells : Nat → Int32) (a_X_now_settings : Nat → Int32) (x1 : Int32) (v_X_plan_price : Int32) (v_X_plan_isStale : Int32) (a_X_plan_most : Nat → Int32) (a_X_plan_steps : Nat → Int64) : Option (Int32 × Int32 × (Nat → Int32) × (Nat → Int64)) :=
  (g_J7_fill_53178 100 0 a_X_plan_most).bind fun v1 =>
  (g_J7_fill_d0a16 495 (0 : Int64) a_X_plan_steps).bind fun v3 =>
  (g_X7_greatest N_X_now_dues_cells v_X_now_dues_width v_X_now_dues_size a_X_now_dues_cells 1).bind fun v5 =>
  (g_X7_greatest N_X_now_dues_cells v_X_now_dues_width v_X_now_dues_size a_X_now_dues_cells 0).bind fun v7 =>
  (g_X4_payDues N_X_now_dues_cells v_X_now_dues_width v_X_now_dues_size a_X_now_dues_cells (if (99 : Int32) < v5 then (99 : Int32) else v5) v1).bind fun v9 =>
  g_X4_refresh_86 N_X_now_dues_cells v_X_now_dues_width v_X_now_dues_size a_X_now_dues_cells a_X_now_settings x1 zF (if (99 : Int32) < v7 then (99 : Int32) else v7) ((if (99 : Int32) < v5 then (99 : Int32) else v5) - 1) x1 0 v9 v3
def g_X4_refresh (N_X_now_dues_cells : Nat) (v_X_now_dues_width : Int32) (v_X_now_dues_size : Int32) (a_X_now_dues_cells : Nat → Int32) (a_X_now_settings : Nat → Int32) (x1 : Int32) (v_X_plan_price : Int32) (v_X_plan_isStale : Int32) (a_X_plan_most : Nat → Int32) (a_X_plan_steps : Nat → Int64) : Option (Int32 × Int32 × (Nat → Int32) × (Nat → Int64)) :=
  if v_X_plan_isStale = 0 then (
    if v_X_plan_price = x1 then (
      some (v_X_plan_price, v_X_plan_isStale, a_X_plan_most, a_X_plan_steps)
    ) else (
      g_X4_refresh_16 N_X_now_dues_cells v_X_now_dues_width v_X_now_dues_size a_X_now_dues_cells a_X_now_settings x1 v_X_plan_price v_X_plan_isStale a_X_plan_most a_X_plan_steps
    )
  ) else (
    g_X4_refresh_16 N_X_now_dues_cells v_X_now_dues_width v_X_now_dues_size a_X_now_dues_cells a_X_now_settings x1 v_X_plan_price v_X_plan_isStale a_X_plan_most a_X_plan_steps
  )
theorem hd_X4_refresh : yX4_refresh.cls = RX4 ∧ yX4_refresh.cls ≠ "java/lang/invoke/MethodHandle" ∧ yX4_refresh.cls ≠ "java/lang/invoke/VarHandle" ∧ (parseMethodDescriptor yX4_refresh.desc).map (fun d => d.parameters.length) = some 1 := by decide +kernel
set_option maxHeartbeats 4000000 in
set_option maxRecDepth 100000 in
theorem c_X4_refresh (l : Launch) (D : va_G) (cI cJ cZ cA : ClassId) (ga : Nat → Nat) (q_X_plan q_X_plan_most q_X_plan_steps q_X_now q_X_now_dues q_X_now_dues_cells q_X_now_settings : Nat) (u_X_now_people : Value) (u_X_now_talks : Value) (u_X_now_sights : Value) (u_X_now_rule : Value) (u_X_now_stake : Value) (u_X_now_dues_limit : Value) (N_X_now_dues_cells : Nat) (v_X_plan_price : Int32) (v_X_plan_isStale : Int32) (a_X_plan_most : Nat → Int32) (a_X_plan_steps : Nat → Int64) (v_X_now_dues_width : Int32) (v_X_now_dues_size : Int32) (a_X_now_dues_cells : Nat → Int32) (a_X_now_settings : Nat → Int32) (x1 : Int32) (o : Int32 × Int32 × (Nat → Int32) × (Nat → Int64)) (hg : g_X4_refresh N_X_now_dues_cells v_X_now_dues_width v_X_now_dues_size a_X_now_dues_cells a_X_now_settings x1 v_X_plan_price v_X_plan_isStale a_X_plan_most a_X_plan_steps = some o) : zM l yX4_refresh (Cond.code yX4_refresh cX4_refresh 5 none :: wsL_law) rm_X4_refresh D (zTy cI cJ cZ cA) ga [.ref q_X_plan, .int x1] (ws_X4_refresh cI cJ cZ cA q_X_plan q_X_plan_most q_X_plan_steps q_X_now q_X_now_dues q_X_now_dues_cells q_X_now_settings u_X_now_people u_X_now_talks u_X_now_sights u_X_now_rule u_X_now_stake u_X_now_dues_limit N_X_now_dues_cells v_X_plan_price v_X_plan_isStale a_X_plan_most a_X_plan_steps v_X_now_dues_width v_X_now_dues_size a_X_now_dues_cells a_X_now_settings) (ws_X4_refresh cI cJ cZ cA q_X_plan q_X_plan_most q_X_plan_steps q_X_now q_X_now_dues q_X_now_dues_cells q_X_now_settings u_X_now_people u_X_now_talks u_X_now_sights u_X_now_rule u_X_now_stake u_X_now_dues_limit N_X_now_dues_cells o.1 o.2.1 o.2.2.1 o.2.2.2 v_X_now_dues_width v_X_now_dues_size a_X_now_dues_cells a_X_now_settings) none := by
  refine zenterV (own := RX4) (by decide) rfl rfl (Nat.le_of_ble_eq_true rfl) ?_
  intro p e s m args below meth c A ls Q S hA hK hG hl hP hD hS hret0
  have hx := S.1
  have hb := S.2.1
  have ht : ∀ w, w ∈ wsL_law → w.before args s = true := fun w h => S.2.2.2.2 w (List.mem_cons_of_mem _ h)
  have hret : ∀ (v_X_plan_price : Int32) (v_X_plan_isStale : Int32) (a_X_plan_most : Nat → Int32) (a_X_plan_steps : Nat → Int64), (some (v_X_plan_price, v_X_plan_isStale, a_X_plan_most, a_X_plan_steps) : Option (Int32 × Int32 × (Nat → Int32) × (Nat → Int64))) = some o → ∀ (H : Heap) (locs : List Loc) (pc : Nat) (ls : Array Slot), va_P D vwCl (ws_X4_refresh cI cJ cZ cA q_X_plan q_X_plan_most q_X_plan_steps q_X_now q_X_now_dues q_X_now_dues_cells q_X_now_settings u_X_now_people u_X_now_talks u_X_now_sights u_X_now_rule u_X_now_stake u_X_now_dues_limit N_X_now_dues_cells v_X_plan_price v_X_plan_isStale a_X_plan_most a_X_plan_steps v_X_now_dues_width v_X_now_dues_size a_X_now_dues_cells a_X_now_settings) H → va_S A s.heap H locs → decode cX4_refresh pc = .ok (.return_, 1) → W p l e rm_X4_refresh s m args below meth c H locs 0 0 Q (F0 m pc ls []) := by
    intro v_X_plan_price v_X_plan_isStale a_X_plan_most a_X_plan_steps he; cases he; exact hret0
  have hl : lv_has ls 5 [(0, .ref q_X_plan), (1, .int x1)] := hl
  have B86 : ∀  (n : Nat) (x3 : Int32) (x4 : Int32) (v_X_plan_price : Int32) (v_X_plan_isStale : Int32) (a_X_plan_most : Nat → Int32) (a_X_plan_steps : Nat → Int64) (H : Heap) (locs : List Loc) (ls : Array Slot) (hl : lv_has ls 5 [(0, .ref q_X_plan), (3, .int x3), (4, .int x4)]) (hP : va_P D vwCl (ws_X4_refresh cI cJ cZ cA q_X_plan q_X_plan_most q_X_plan_steps q_X_now q_X_now_dues q_X_now_dues_cells q_X_now_settings u_X_now_people u_X_now_talks u_X_now_sights u_X_now_rule u_X_now_stake u_X_now_dues_limit N_X_now_dues_cells v_X_plan_price v_X_plan_isStale a_X_plan_most a_X_plan_steps v_X_now_dues_width v_X_now_dues_size a_X_now_dues_cells a_X_now_settings) H) (hD : va_D A (ws_X4_refresh cI cJ cZ cA q_X_plan q_X_plan_most q_X_plan_steps q_X_now q_X_now_dues q_X_now_dues_cells q_X_now_settings u_X_now_people u_X_now_talks u_X_now_sights u_X_now_rule u_X_now_stake u_X_now_dues_limit N_X_now_dues_cells v_X_plan_price v_X_plan_isStale a_X_plan_most a_X_plan_steps v_X_now_dues_width v_X_now_dues_size a_X_now_dues_cells a_X_now_settings)) (hS : va_S A s.heap H locs), g_X4_refresh_86 N_X_now_dues_cells v_X_now_dues_width v_X_now_dues_size a_X_now_dues_cells a_X_now_settings x1 n x3 x4 v_X_plan_price v_X_plan_isStale a_X_plan_most a_X_plan_steps = some o → W p l e rm_X4_refresh s m args below meth c H locs 0 0 Q (F0 m 86 ls []) := by
    intro  n
    induction n with
    | zero => intro x3 x4 v_X_plan_price v_X_plan_isStale a_X_plan_most a_X_plan_steps H locs ls hl hP hD hS hg; exact nomatch (show (none : Option (Int32 × Int32 × (Nat → Int32) × (Nat → Int64))) = some o from hg)
    | succ n ih =>
      intro x3 x4 v_X_plan_price v_X_plan_isStale a_X_plan_most a_X_plan_steps H locs ls hl hP hD hS hg
      have hg : g_X4_refresh_86b N_X_now_dues_cells v_X_now_dues_width v_X_now_dues_size a_X_now_dues_cells a_X_now_settings x1 (g_X4_refresh_86 N_X_now_dues_cells v_X_now_dues_width v_X_now_dues_size a_X_now_dues_cells a_X_now_settings x1 n) x3 x4 v_X_plan_price v_X_plan_isStale a_X_plan_most a_X_plan_steps = some o := hg
      refine lv_iload hx hb dX4_refresh_86 (lv_at hl 2 rfl) ?_
      refine lv_if_lt (tgt := 110) hx hb dX4_refresh_88 (by decide) (fun h88 => ?_) (fun h88 => ?_)
      · have hg := zp hg h88
        exact hret v_X_plan_price v_X_plan_isStale a_X_plan_most a_X_plan_steps hg _ _ _ _ hP hS dX4_refresh_110
      · have hg := zn hg h88
        refine lv_aload_n hx hb dX4_refresh_91 rfl (lv_at hl 0 rfl) ?_
        refine lv_iload hx hb dX4_refresh_92 (lv_at hl 2 rfl) ?_
        refine lv_iload_n hx hb dX4_refresh_94 rfl (lv_at hl 1 rfl) ?_
        obtain ⟨v11, hc12, hg⟩ := zbd hg
        refine zcallV (rest := []) S (c_X4_chooseSteps l D cI cJ cZ cA ga q_X_plan q_X_now q_X_now_settings q_X_plan_most q_X_plan_steps (.int v_X_plan_isStale) u_X_now_people u_X_now_talks (.ref q_X_now_dues) u_X_now_sights u_X_now_rule u_X_now_stake v_X_plan_price a_X_now_settings a_X_plan_most a_X_plan_steps x4 x3 v11 hc12) (zgV zw_803 zw_804 zw_805 zw_45 zw_806) rfl hd_X4_chooseSteps ⟨rfl, rfl⟩ ⟨Nat.le_of_ble_eq_true rfl, Nat.le_of_ble_eq_true rfl⟩ 0 4 rfl rfl rfl hl.1 rfl (Nat.le_of_ble_eq_true rfl) dX4_refresh_95 hP hD hS hA hK hG (isC := [0, 3, 6, 1, 2]) rfl (by decide +kernel) rfl ⟨Nat.zero_le _, Nat.zero_le _⟩ (pl := [some 0, some 3, some 4, some 1, none, none, some 2]) (nw := 7) rfl (by decide +kernel) (w2 := (ws_X4_refresh cI cJ cZ cA q_X_plan q_X_plan_most q_X_plan_steps q_X_now q_X_now_dues q_X_now_dues_cells q_X_now_settings u_X_now_people u_X_now_talks u_X_now_sights u_X_now_rule u_X_now_stake u_X_now_dues_limit N_X_now_dues_cells v_X_plan_price v_X_plan_isStale v11.1 v11.2 v_X_now_dues_width v_X_now_dues_size a_X_now_dues_cells a_X_now_settings)) rfl (st1 := []) rfl (fun H locs hP hD hS => ?_)
        refine lv_aload_n hx hb dX4_refresh_98 rfl (lv_at hl 0 rfl) ?_
        refine lv_iload hx hb dX4_refresh_99 (lv_at hl 2 rfl) ?_
        obtain ⟨v13, hc14, hg⟩ := zbd hg
        refine zcallV (rest := []) S (c_X4_payDues l D cI cJ cZ cA ga q_X_plan q_X_now q_X_now_dues q_X_now_dues_cells q_X_plan_most (.ref q_X_plan_steps) (.int v_X_plan_price) (.int v_X_plan_isStale) u_X_now_people u_X_now_talks u_X_now_sights u_X_now_rule (.ref q_X_now_settings) u_X_now_stake u_X_now_dues_limit N_X_now_dues_cells v_X_now_dues_width v_X_now_dues_size a_X_now_dues_cells v11.1 x4 v13 hc14) (zgV zw_796 zw_797 zw_798 zw_45 zw_799) rfl hd_X4_payDues ⟨rfl, rfl⟩ ⟨Nat.le_of_ble_eq_true rfl, Nat.le_of_ble_eq_true rfl⟩ 0 4 rfl rfl rfl hl.1 rfl (Nat.le_of_ble_eq_true rfl) dX4_refresh_101 hP hD hS hA hK hG (isC := [0, 3, 4, 5, 1]) rfl (by decide +kernel) rfl ⟨Nat.zero_le _, Nat.zero_le _⟩ (pl := [some 0, some 4, none, some 1, some 2, some 3, none]) (nw := 7) rfl (by decide +kernel) (w2 := (ws_X4_refresh cI cJ cZ cA q_X_plan q_X_plan_most q_X_plan_steps q_X_now q_X_now_dues q_X_now_dues_cells q_X_now_settings u_X_now_people u_X_now_talks u_X_now_sights u_X_now_rule u_X_now_stake u_X_now_dues_limit N_X_now_dues_cells v_X_plan_price v_X_plan_isStale v13 v11.2 v_X_now_dues_width v_X_now_dues_size a_X_now_dues_cells a_X_now_settings)) rfl (st1 := []) rfl (fun H locs hP hD hS => ?_)
        refine lv_iinc (k := 2) (v := x4 + (-1)) (lv' := [(4, .int (x4 + (-1))), (0, .ref q_X_plan), (3, .int x3)]) hx hb dX4_refresh_104 hl rfl (zinc (by decide)) (by decide) rfl (fun ls hl => ?_)
        refine lv_goto (tgt := 86) hx hb dX4_refresh_107 (by decide) ?_
        exact ih x3 (x4 + (-1)) v_X_plan_price v_X_plan_isStale v13 v11.2 _ _ _ (lv_sub hl [1, 2, 0] rfl) hP hD hS hg
  have B16 : ∀ (v_X_plan_price : Int32) (v_X_plan_isStale : Int32) (a_X_plan_most : Nat → Int32) (a_X_plan_steps : Nat → Int64) (H : Heap) (locs : List Loc) (ls : Array Slot) (hl : lv_has ls 5 [(0, .ref q_X_plan), (1, .int x1)]) (hP : va_P D vwCl (ws_X4_refresh cI cJ cZ cA q_X_plan q_X_plan_most q_X_plan_steps q_X_now q_X_now_dues q_X_now_dues_cells q_X_now_settings u_X_now_people u_X_now_talks u_X_now_sights u_X_now_rule u_X_now_stake u_X_now_dues_limit N_X_now_dues_cells v_X_plan_price v_X_plan_isStale a_X_plan_most a_X_plan_steps v_X_now_dues_width v_X_now_dues_size a_X_now_dues_cells a_X_now_settings) H) (hD : va_D A (ws_X4_refresh cI cJ cZ cA q_X_plan q_X_plan_most q_X_plan_steps q_X_now q_X_now_dues q_X_now_dues_cells q_X_now_settings u_X_now_people u_X_now_talks u_X_now_sights u_X_now_rule u_X_now_stake u_X_now_dues_limit N_X_now_dues_cells v_X_plan_price v_X_plan_isStale a_X_plan_most a_X_plan_steps v_X_now_dues_width v_X_now_dues_size a_X_now_dues_cells a_X_now_settings)) (hS : va_S A s.heap H locs), g_X4_refresh_16 N_X_now_dues_cells v_X_now_dues_width v_X_now_dues_size a_X_now_dues_cells a_X_now_settings x1 v_X_plan_price v_X_plan_isStale a_X_plan_most a_X_plan_steps = some o → W p l e rm_X4_refresh s m args below meth c H locs 0 0 Q (F0 m 16 ls []) := by
    intro  v_X_plan_price v_X_plan_isStale a_X_plan_most a_X_plan_steps H locs ls hl hP hD hS hg
    refine lv_aload_n hx hb dX4_refresh_16 rfl (lv_at hl 0 rfl) ?_
    refine lv_iconst (v := 0) hx hb dX4_refresh_17 (by decide) ?_
    refine zputf (C := RX4) (T := TX4) (N := 5) (ty := .boolean) S hK hP hD hS 0 rfl rfl 4 (Nat.le_of_ble_eq_true rfl) zf_4 tyX4 tyX4_ok nmX4 zw_135 rfl (by decide +kernel) rfl rfl (Nat.le_of_ble_eq_true rfl) dX4_refresh_18 (w2 := (ws_X4_refresh cI cJ cZ cA q_X_plan q_X_plan_most q_X_plan_steps q_X_now q_X_now_dues q_X_now_dues_cells q_X_now_settings u_X_now_people u_X_now_talks u_X_now_sights u_X_now_rule u_X_now_stake u_X_now_dues_limit N_X_now_dues_cells v_X_plan_price 0 a_X_plan_most a_X_plan_steps v_X_now_dues_width v_X_now_dues_size a_X_now_dues_cells a_X_now_settings)) rfl (fun H locs hP hD hS => ?_)
    refine lv_aload_n hx hb dX4_refresh_21 rfl (lv_at hl 0 rfl) ?_
    refine lv_iload_n hx hb dX4_refresh_22 rfl (lv_at hl 1 rfl) ?_
    refine zputf (C := RX4) (T := TX4) (N := 5) (ty := .int) S hK hP hD hS 0 rfl rfl 3 (Nat.le_of_ble_eq_true rfl) zf_4 tyX4 tyX4_ok nmX4 zw_788 rfl (by decide +kernel) rfl rfl (Nat.le_of_ble_eq_true rfl) dX4_refresh_23 (w2 := (ws_X4_refresh cI cJ cZ cA q_X_plan q_X_plan_most q_X_plan_steps q_X_now q_X_now_dues q_X_now_dues_cells q_X_now_settings u_X_now_people u_X_now_talks u_X_now_sights u_X_now_rule u_X_now_stake u_X_now_dues_limit N_X_now_dues_cells x1 0 a_X_plan_most a_X_plan_steps v_X_now_dues_width v_X_now_dues_size a_X_now_dues_cells a_X_now_settings)) rfl (fun H locs hP hD hS => ?_)
    refine lv_aload_n hx hb dX4_refresh_26 rfl (lv_at hl 0 rfl) ?_
    refine zget (C := RX4) (T := TX4) (N := 5) S hK hP 0 rfl rfl 1 (Nat.le_of_ble_eq_true rfl) zf_4 zw_133 rfl dX4_refresh_27 ?_
    refine lv_iconst (v := 0) hx hb dX4_refresh_30 (by decide) ?_
    obtain ⟨v1, hc2, hg⟩ := zbd hg
    refine zcallS (rest := []) S (c_J7_fill_53178 l D cI cJ cZ cA ga q_X_plan_most 100 a_X_plan_most 0 v1 hc2) (zgS zw_791 zw_641 zw_642 zw_643) rfl hd_J7_fill_53178 ⟨rfl, rfl⟩ ⟨Nat.le_of_ble_eq_true rfl, Nat.le_of_ble_eq_true rfl⟩ rfl hl.1 rfl (Nat.le_of_ble_eq_true rfl) dX4_refresh_31 hP hD hS hA hK hG (isC := [1]) rfl (by decide +kernel) rfl ⟨Nat.zero_le _, Nat.zero_le _⟩ (pl := [none, some 0, none, none, none, none, none]) (nw := 7) rfl (by decide +kernel) (w2 := (ws_X4_refresh cI cJ cZ cA q_X_plan q_X_plan_most q_X_plan_steps q_X_now q_X_now_dues q_X_now_dues_cells q_X_now_settings u_X_now_people u_X_now_talks u_X_now_sights u_X_now_rule u_X_now_stake u_X_now_dues_limit N_X_now_dues_cells x1 0 v1 a_X_plan_steps v_X_now_dues_width v_X_now_dues_size a_X_now_dues_cells a_X_now_settings)) rfl (st1 := []) rfl (fun H locs hP hD hS => ?_)
    refine lv_aload_n hx hb dX4_refresh_34 rfl (lv_at hl 0 rfl) ?_
    refine zget (C := RX4) (T := TX4) (N := 5) S hK hP 0 rfl rfl 2 (Nat.le_of_ble_eq_true rfl) zf_4 zw_134 rfl dX4_refresh_35 ?_
    refine lv_lconst (v := 0) hx hb dX4_refresh_38 (by decide) ?_
    obtain ⟨v3, hc4, hg⟩ := zbd hg
    refine zcallS (rest := []) S (c_J7_fill_d0a16 l D cI cJ cZ cA ga q_X_plan_steps 495 a_X_plan_steps (0 : Int64) v3 hc4) (zgS zw_792 zw_793 zw_642 zw_794) rfl hd_J7_fill_d0a16 ⟨rfl, rfl⟩ ⟨Nat.le_of_ble_eq_true rfl, Nat.le_of_ble_eq_true rfl⟩ rfl hl.1 rfl (Nat.le_of_ble_eq_true rfl) dX4_refresh_39 hP hD hS hA hK hG (isC := [2]) rfl (by decide +kernel) rfl ⟨Nat.zero_le _, Nat.zero_le _⟩ (pl := [none, none, some 0, none, none, none, none]) (nw := 7) rfl (by decide +kernel) (w2 := (ws_X4_refresh cI cJ cZ cA q_X_plan q_X_plan_most q_X_plan_steps q_X_now q_X_now_dues q_X_now_dues_cells q_X_now_settings u_X_now_people u_X_now_talks u_X_now_sights u_X_now_rule u_X_now_stake u_X_now_dues_limit N_X_now_dues_cells x1 0 v1 v3 v_X_now_dues_width v_X_now_dues_size a_X_now_dues_cells a_X_now_settings)) rfl (st1 := []) rfl (fun H locs hP hD hS => ?_)
    refine lv_aload_n hx hb dX4_refresh_42 rfl (lv_at hl 0 rfl) ?_
    refine zget (C := RX4) (T := TX4) (N := 5) S hK hP 0 rfl rfl 0 (Nat.le_of_ble_eq_true rfl) zf_4 zw_136 rfl dX4_refresh_43 ?_
    refine zget (C := RX9) (T := TX9) (N := 7) S hK hP 3 rfl rfl 2 (Nat.le_of_ble_eq_true rfl) zf_9 zw_789 rfl dX4_refresh_46 ?_
    refine lv_iconst (v := 1) hx hb dX4_refresh_49 (by decide) ?_
    obtain ⟨v5, hc6, hg⟩ := zbd hg
    refine zcallV (rest := []) S (c_X7_greatest l D cI cJ cZ cA ga q_X_now_dues q_X_now_dues_cells u_X_now_dues_limit N_X_now_dues_cells v_X_now_dues_width v_X_now_dues_size a_X_now_dues_cells 1 v5 hc6) (zgV zw_795 zw_741 zw_742 zw_32 zw_743) rfl hd_X7_greatest ⟨rfl, rfl⟩ ⟨Nat.le_of_ble_eq_true rfl, Nat.le_of_ble_eq_true rfl⟩ 4 7 rfl rfl rfl hl.1 rfl (Nat.le_of_ble_eq_true rfl) dX4_refresh_50 hP hD hS hA hK hG (isC := [4, 5]) rfl (by decide +kernel) rfl ⟨Nat.zero_le _, Nat.zero_le _⟩ (pl := [none, none, none, none, some 0, some 1, none]) (nw := 7) rfl (by decide +kernel) (w2 := (ws_X4_refresh cI cJ cZ cA q_X_plan q_X_plan_most q_X_plan_steps q_X_now q_X_now_dues q_X_now_dues_cells q_X_now_settings u_X_now_people u_X_now_talks u_X_now_sights u_X_now_rule u_X_now_stake u_X_now_dues_limit N_X_now_dues_cells x1 0 v1 v3 v_X_now_dues_width v_X_now_dues_size a_X_now_dues_cells a_X_now_settings)) rfl (st1 := [.int v5]) rfl (fun H locs hP hD hS => ?_)
    refine lv_bipush (v := 99) hx hb dX4_refresh_53 (by decide) ?_
    refine va_mmin hx hb (S.2.2.1.trans hl.1.symm) S.2.2.2.1 (ht _ zw_790) (ht _ zw_96) (ht _ zw_93) (ht _ zw_97) (Nat.le_of_ble_eq_true rfl) (Nat.le_of_ble_eq_true rfl) (Nat.zero_le _) (Nat.zero_le _) dX4_refresh_55 ?_
    refine lv_istore_n (lv' := [(2, .int (if (99 : Int32) < v5 then (99 : Int32) else v5)), (0, .ref q_X_plan), (1, .int x1)]) hx hb dX4_refresh_58 rfl hl (by decide) rfl (fun ls hl => ?_)
    refine lv_aload_n hx hb dX4_refresh_59 rfl (lv_at hl 1 rfl) ?_
    refine zget (C := RX4) (T := TX4) (N := 5) S hK hP 0 rfl rfl 0 (Nat.le_of_ble_eq_true rfl) zf_4 zw_136 rfl dX4_refresh_60 ?_
    refine zget (C := RX9) (T := TX9) (N := 7) S hK hP 3 rfl rfl 2 (Nat.le_of_ble_eq_true rfl) zf_9 zw_789 rfl dX4_refresh_63 ?_
    refine lv_iconst (v := 0) hx hb dX4_refresh_66 (by decide) ?_
    obtain ⟨v7, hc8, hg⟩ := zbd hg
    refine zcallV (rest := []) S (c_X7_greatest l D cI cJ cZ cA ga q_X_now_dues q_X_now_dues_cells u_X_now_dues_limit N_X_now_dues_cells v_X_now_dues_width v_X_now_dues_size a_X_now_dues_cells 0 v7 hc8) (zgV zw_795 zw_741 zw_742 zw_32 zw_743) rfl hd_X7_greatest ⟨rfl, rfl⟩ ⟨Nat.le_of_ble_eq_true rfl, Nat.le_of_ble_eq_true rfl⟩ 4 7 rfl rfl rfl hl.1 rfl (Nat.le_of_ble_eq_true rfl) dX4_refresh_67 hP hD hS hA hK hG (isC := [4, 5]) rfl (by decide +kernel) rfl ⟨Nat.zero_le _, Nat.zero_le _⟩ (pl := [none, none, none, none, some 0, some 1, none]) (nw := 7) rfl (by decide +kernel) (w2 := (ws_X4_refresh cI cJ cZ cA q_X_plan q_X_plan_most q_X_plan_steps q_X_now q_X_now_dues q_X_now_dues_cells q_X_now_settings u_X_now_people u_X_now_talks u_X_now_sights u_X_now_rule u_X_now_stake u_X_now_dues_limit N_X_now_dues_cells x1 0 v1 v3 v_X_now_dues_width v_X_now_dues_size a_X_now_dues_cells a_X_now_settings)) rfl (st1 := [.int v7]) rfl (fun H locs hP hD hS => ?_)
    refine lv_bipush (v := 99) hx hb dX4_refresh_70 (by decide) ?_
    refine va_mmin hx hb (S.2.2.1.trans hl.1.symm) S.2.2.2.1 (ht _ zw_790) (ht _ zw_96) (ht _ zw_93) (ht _ zw_97) (Nat.le_of_ble_eq_true rfl) (Nat.le_of_ble_eq_true rfl) (Nat.zero_le _) (Nat.zero_le _) dX4_refresh_72 ?_
    refine lv_istore_n (lv' := [(3, .int (if (99 : Int32) < v7 then (99 : Int32) else v7)), (2, .int (if (99 : Int32) < v5 then (99 : Int32) else v5)), (0, .ref q_X_plan), (1, .int x1)]) hx hb dX4_refresh_75 rfl hl (by decide) rfl (fun ls hl => ?_)
    refine lv_aload_n hx hb dX4_refresh_76 rfl (lv_at hl 2 rfl) ?_
    refine lv_iload_n hx hb dX4_refresh_77 rfl (lv_at hl 1 rfl) ?_
    obtain ⟨v9, hc10, hg⟩ := zbd hg
    refine zcallV (rest := []) S (c_X4_payDues l D cI cJ cZ cA ga q_X_plan q_X_now q_X_now_dues q_X_now_dues_cells q_X_plan_most (.ref q_X_plan_steps) (.int x1) (.int 0) u_X_now_people u_X_now_talks u_X_now_sights u_X_now_rule (.ref q_X_now_settings) u_X_now_stake u_X_now_dues_limit N_X_now_dues_cells v_X_now_dues_width v_X_now_dues_size a_X_now_dues_cells v1 (if (99 : Int32) < v5 then (99 : Int32) else v5) v9 hc10) (zgV zw_796 zw_797 zw_798 zw_45 zw_799) rfl hd_X4_payDues ⟨rfl, rfl⟩ ⟨Nat.le_of_ble_eq_true rfl, Nat.le_of_ble_eq_true rfl⟩ 0 4 rfl rfl rfl hl.1 rfl (Nat.le_of_ble_eq_true rfl) dX4_refresh_78 hP hD hS hA hK hG (isC := [0, 3, 4, 5, 1]) rfl (by decide +kernel) rfl ⟨Nat.zero_le _, Nat.zero_le _⟩ (pl := [some 0, some 4, none, some 1, some 2, some 3, none]) (nw := 7) rfl (by decide +kernel) (w2 := (ws_X4_refresh cI cJ cZ cA q_X_plan q_X_plan_most q_X_plan_steps q_X_now q_X_now_dues q_X_now_dues_cells q_X_now_settings u_X_now_people u_X_now_talks u_X_now_sights u_X_now_rule u_X_now_stake u_X_now_dues_limit N_X_now_dues_cells x1 0 v9 v3 v_X_now_dues_width v_X_now_dues_size a_X_now_dues_cells a_X_now_settings)) rfl (st1 := []) rfl (fun H locs hP hD hS => ?_)
    refine lv_iload_n hx hb dX4_refresh_81 rfl (lv_at hl 1 rfl) ?_
    refine lv_iconst (v := 1) hx hb dX4_refresh_82 (by decide) ?_
    refine lv_isub hx hb dX4_refresh_83 ?_
    refine lv_istore (lv' := [(4, .int ((if (99 : Int32) < v5 then (99 : Int32) else v5) - 1)), (3, .int (if (99 : Int32) < v7 then (99 : Int32) else v7)), (2, .int (if (99 : Int32) < v5 then (99 : Int32) else v5)), (0, .ref q_X_plan), (1, .int x1)]) hx hb dX4_refresh_84 hl (by decide) rfl (fun ls hl => ?_)
    exact B86 zF (if (99 : Int32) < v7 then (99 : Int32) else v7) ((if (99 : Int32) < v5 then (99 : Int32) else v5) - 1) x1 0 v9 v3 _ _ _ (lv_sub hl [3, 1, 0] rfl) hP hD hS hg
  refine lv_aload_n hx hb dX4_refresh_0 rfl (lv_at hl 0 rfl) ?_
  refine zget (C := RX4) (T := TX4) (N := 5) S hK hP 0 rfl rfl 4 (Nat.le_of_ble_eq_true rfl) zf_4 zw_135 rfl dX4_refresh_1 ?_
  refine lv_if_ne (tgt := 16) hx hb dX4_refresh_4 (by decide) (fun h4 => ?_) (fun h4 => ?_)
  · have hg := zn hg h4
    exact B16 v_X_plan_price v_X_plan_isStale a_X_plan_most a_X_plan_steps _ _ _ hl hP hD hS hg
  · have hg := zp hg h4
    refine lv_aload_n hx hb dX4_refresh_7 rfl (lv_at hl 0 rfl) ?_
    refine zget (C := RX4) (T := TX4) (N := 5) S hK hP 0 rfl rfl 3 (Nat.le_of_ble_eq_true rfl) zf_4 zw_788 rfl dX4_refresh_8 ?_
    refine lv_iload_n hx hb dX4_refresh_11 rfl (lv_at hl 1 rfl) ?_
    refine lv_icmp_ne (tgt := 16) hx hb dX4_refresh_12 (by decide) (fun h12 => ?_) (fun h12 => ?_)
    · have hg := zn hg h12
      exact B16 v_X_plan_price v_X_plan_isStale a_X_plan_most a_X_plan_steps _ _ _ hl hP hD hS hg
    · have hg := zp hg h12
      exact hret v_X_plan_price v_X_plan_isStale a_X_plan_most a_X_plan_steps hg _ _ _ _ hP hS dX4_refresh_15

/-! SpokenClock$Plan.mostFrom(II)I -/
abbrev ws_X4_mostFrom (cI cJ cZ cA : ClassId) (q_X_plan q_X_plan_most q_X_plan_steps q_X_now q_X_now_dues q_X_now_dues_cells q_X_now_settings : Nat) (u_X_now_people : Value) (u_X_now_talks : Value) (u_X_now_sights : Value) (u_X_now_rule : Value) (u_X_now_stake : Value) (u_X_now_dues_limit : Value) (N_X_now_dues_cells : Nat) (v_X_plan_price : Int32) (v_X_plan_isStale : Int32) (a_X_plan_most : Nat → Int32) (a_X_plan_steps : Nat → Int64) (v_X_now_dues_width : Int32) (v_X_now_dues_size : Int32) (a_X_now_dues_cells : Nat → Int32) (a_X_now_settings : Nat → Int32) : va_W := [(q_X_plan, .inr (4, [.ref q_X_now, .ref q_X_plan_most, .ref q_X_plan_steps, .int v_X_plan_price, .int v_X_plan_isStale])), (q_X_plan_most, .inl (cI, 100, .inl a_X_plan_most)), (q_X_plan_steps, .inl (cJ, 495, .inr (.inl a_X_plan_steps))), (q_X_now, .inr (9, [u_X_now_people, u_X_now_talks, .ref q_X_now_dues, u_X_now_sights, u_X_now_rule, .ref q_X_now_settings, u_X_now_stake])), (q_X_now_dues, .inr (7, [.int v_X_now_dues_width, u_X_now_dues_limit, .ref q_X_now_dues_cells, .int v_X_now_dues_size])), (q_X_now_dues_cells, .inl (cI, N_X_now_dues_cells, .inl a_X_now_dues_cells)), (q_X_now_settings, .inl (cI, 3, .inl a_X_now_settings))]
abbrev rm_X4_mostFrom : Room := { frames := 4, cells := 0, slots := 0, locals := 99 }
def g_X4_mostFrom (N_X_now_dues_cells : Nat) (v_X_now_dues_width : Int32) (v_X_now_dues_size : Int32) (a_X_now_dues_cells : Nat → Int32) (a_X_now_settings : Nat → Int32) (x1 : Int32) (x2 : Int32) (v_X_plan_price : Int32) (v_X_plan_isStale : Int32) (a_X_plan_most : Nat → Int32) (a_X_plan_steps : Nat → Int64) : Option (Int32 × Int32 × Int32 × (Nat → Int32) × (Nat → Int64)) :=
  (g_X4_refresh N_X_now_dues_cells v_X_now_dues_width v_X_now_dues_size a_X_now_dues_cells a_X_now_settings x2 v_X_plan_price v_X_plan_isStale a_X_plan_most a_X_plan_steps).bind fun v1 =>
  (g_X10_isIn x1 0 99).bind fun v3 =>
  if v3 = 0 then (
    some (0, v1.1, v1.2.1, v1.2.2.1, v1.2.2.2)
  ) else (
    if x1 < 0 ∨ 100 ≤ x1.toNatClampNeg then none else
    some (v1.2.2.1 (x1.toNatClampNeg), v1.1, v1.2.1, v1.2.2.1, v1.2.2.2)
  )
theorem hd_X4_mostFrom : yX4_mostFrom.cls = RX4 ∧ yX4_mostFrom.cls ≠ "java/lang/invoke/MethodHandle" ∧ yX4_mostFrom.cls ≠ "java/lang/invoke/VarHandle" ∧ (parseMethodDescriptor yX4_mostFrom.desc).map (fun d => d.parameters.length) = some 2 := by decide +kernel
set_option maxHeartbeats 4000000 in
set_option maxRecDepth 100000 in
theorem c_X4_mostFrom (l : Launch) (D : va_G) (cI cJ cZ cA : ClassId) (ga : Nat → Nat) (q_X_plan q_X_plan_most q_X_plan_steps q_X_now q_X_now_dues q_X_now_dues_cells q_X_now_settings : Nat) (u_X_now_people : Value) (u_X_now_talks : Value) (u_X_now_sights : Value) (u_X_now_rule : Value) (u_X_now_stake : Value) (u_X_now_dues_limit : Value) (N_X_now_dues_cells : Nat) (v_X_plan_price : Int32) (v_X_plan_isStale : Int32) (a_X_plan_most : Nat → Int32) (a_X_plan_steps : Nat → Int64) (v_X_now_dues_width : Int32) (v_X_now_dues_size : Int32) (a_X_now_dues_cells : Nat → Int32) (a_X_now_settings : Nat → Int32) (x1 : Int32) (x2 : Int32) (o : Int32 × Int32 × Int32 × (Nat → Int32) × (Nat → Int64)) (hg : g_X4_mostFrom N_X_now_dues_cells v_X_now_dues_width v_X_now_dues_size a_X_now_dues_cells a_X_now_settings x1 x2 v_X_plan_price v_X_plan_isStale a_X_plan_most a_X_plan_steps = some o) : zM l yX4_mostFrom (Cond.code yX4_mostFrom cX4_mostFrom 3 (some .int) :: wsL_law) rm_X4_mostFrom D (zTy cI cJ cZ cA) ga [.ref q_X_plan, .int x1, .int x2] (ws_X4_mostFrom cI cJ cZ cA q_X_plan q_X_plan_most q_X_plan_steps q_X_now q_X_now_dues q_X_now_dues_cells q_X_now_settings u_X_now_people u_X_now_talks u_X_now_sights u_X_now_rule u_X_now_stake u_X_now_dues_limit N_X_now_dues_cells v_X_plan_price v_X_plan_isStale a_X_plan_most a_X_plan_steps v_X_now_dues_width v_X_now_dues_size a_X_now_dues_cells a_X_now_settings) (ws_X4_mostFrom cI cJ cZ cA q_X_plan q_X_plan_most q_X_plan_steps q_X_now q_X_now_dues q_X_now_dues_cells q_X_now_settings u_X_now_people u_X_now_talks u_X_now_sights u_X_now_rule u_X_now_stake u_X_now_dues_limit N_X_now_dues_cells o.2.1 o.2.2.1 o.2.2.2.1 o.2.2.2.2 v_X_now_dues_width v_X_now_dues_size a_X_now_dues_cells a_X_now_settings) (some (.int o.1)) := by
  refine zenterI (own := RX4) (by decide) rfl rfl (Nat.le_of_ble_eq_true rfl) ?_
  intro p e s m args below meth c A ls Q S hA hK hG hl hP hD hS hret0
  have hx := S.1
  have hb := S.2.1
  have ht : ∀ w, w ∈ wsL_law → w.before args s = true := fun w h => S.2.2.2.2 w (List.mem_cons_of_mem _ h)
  have hret : ∀ (r9 : Int32) (v_X_plan_price : Int32) (v_X_plan_isStale : Int32) (a_X_plan_most : Nat → Int32) (a_X_plan_steps : Nat → Int64), (some (r9, v_X_plan_price, v_X_plan_isStale, a_X_plan_most, a_X_plan_steps) : Option (Int32 × Int32 × Int32 × (Nat → Int32) × (Nat → Int64))) = some o → ∀ (H : Heap) (locs : List Loc) (pc : Nat) (ls : Array Slot), va_P D vwCl (ws_X4_mostFrom cI cJ cZ cA q_X_plan q_X_plan_most q_X_plan_steps q_X_now q_X_now_dues q_X_now_dues_cells q_X_now_settings u_X_now_people u_X_now_talks u_X_now_sights u_X_now_rule u_X_now_stake u_X_now_dues_limit N_X_now_dues_cells v_X_plan_price v_X_plan_isStale a_X_plan_most a_X_plan_steps v_X_now_dues_width v_X_now_dues_size a_X_now_dues_cells a_X_now_settings) H → va_S A s.heap H locs → decode cX4_mostFrom pc = .ok (.ireturn, 1) → W p l e rm_X4_mostFrom s m args below meth c H locs 0 0 Q (F0 m pc ls [.int r9]) := by
    intro r9 v_X_plan_price v_X_plan_isStale a_X_plan_most a_X_plan_steps he; cases he; exact hret0
  have hl : lv_has ls 3 [(0, .ref q_X_plan), (1, .int x1), (2, .int x2)] := hl
  refine lv_aload_n hx hb dX4_mostFrom_0 rfl (lv_at hl 0 rfl) ?_
  refine lv_iload_n hx hb dX4_mostFrom_1 rfl (lv_at hl 2 rfl) ?_
  obtain ⟨v1, hc2, hg⟩ := zbd hg
  refine zcallV (rest := []) S (c_X4_refresh l D cI cJ cZ cA ga q_X_plan q_X_plan_most q_X_plan_steps q_X_now q_X_now_dues q_X_now_dues_cells q_X_now_settings u_X_now_people u_X_now_talks u_X_now_sights u_X_now_rule u_X_now_stake u_X_now_dues_limit N_X_now_dues_cells v_X_plan_price v_X_plan_isStale a_X_plan_most a_X_plan_steps v_X_now_dues_width v_X_now_dues_size a_X_now_dues_cells a_X_now_settings x2 v1 hc2) (zgV zw_784 zw_785 zw_786 zw_45 zw_787) rfl hd_X4_refresh ⟨rfl, rfl⟩ ⟨Nat.le_of_ble_eq_true rfl, Nat.le_of_ble_eq_true rfl⟩ 0 4 rfl rfl rfl hl.1 rfl (Nat.le_of_ble_eq_true rfl) dX4_mostFrom_2 hP hD hS hA hK hG (isC := [0, 1, 2, 3, 4, 5, 6]) rfl (by decide +kernel) rfl ⟨Nat.zero_le _, Nat.zero_le _⟩ (pl := [some 0, some 1, some 2, some 3, some 4, some 5, some 6]) (nw := 7) rfl (by decide +kernel) (w2 := (ws_X4_mostFrom cI cJ cZ cA q_X_plan q_X_plan_most q_X_plan_steps q_X_now q_X_now_dues q_X_now_dues_cells q_X_now_settings u_X_now_people u_X_now_talks u_X_now_sights u_X_now_rule u_X_now_stake u_X_now_dues_limit N_X_now_dues_cells v1.1 v1.2.1 v1.2.2.1 v1.2.2.2 v_X_now_dues_width v_X_now_dues_size a_X_now_dues_cells a_X_now_settings)) rfl (st1 := []) rfl (fun H locs hP hD hS => ?_)
  refine lv_iload_n hx hb dX4_mostFrom_5 rfl (lv_at hl 1 rfl) ?_
  refine lv_iconst (v := 0) hx hb dX4_mostFrom_6 (by decide) ?_
  refine lv_bipush (v := 99) hx hb dX4_mostFrom_7 (by decide) ?_
  obtain ⟨v3, hc4, hg⟩ := zbd hg
  refine zcallSN (rest := []) S (c_X10_isIn l D cI cJ cZ cA ga x1 0 99 v3 hc4) (zgI zw_190) rfl hd_X10_isIn hG.1.2.1.2.2.2.2.2.2.1 (List.mem_cons_of_mem _ zw_2) (List.mem_cons_of_mem _ zw_189) ⟨rfl, rfl⟩ ⟨Nat.le_of_ble_eq_true rfl, Nat.le_of_ble_eq_true rfl⟩ rfl hl.1 rfl (Nat.le_of_ble_eq_true rfl) dX4_mostFrom_9 hP hD hS hA hK hG (isC := []) rfl (by decide +kernel) rfl ⟨Nat.zero_le _, Nat.zero_le _⟩ (pl := [none, none, none, none, none, none, none]) (nw := 7) rfl (by decide +kernel) (w2 := (ws_X4_mostFrom cI cJ cZ cA q_X_plan q_X_plan_most q_X_plan_steps q_X_now q_X_now_dues q_X_now_dues_cells q_X_now_settings u_X_now_people u_X_now_talks u_X_now_sights u_X_now_rule u_X_now_stake u_X_now_dues_limit N_X_now_dues_cells v1.1 v1.2.1 v1.2.2.1 v1.2.2.2 v_X_now_dues_width v_X_now_dues_size a_X_now_dues_cells a_X_now_settings)) rfl (st1 := [.int v3]) rfl (fun H locs hP hD hS => ?_)
  refine lv_if_eq (tgt := 24) hx hb dX4_mostFrom_12 (by decide) (fun h12 => ?_) (fun h12 => ?_)
  · have hg := zp hg h12
    refine lv_iconst (v := 0) hx hb dX4_mostFrom_24 (by decide) ?_
    exact hret 0 v1.1 v1.2.1 v1.2.2.1 v1.2.2.2 hg _ _ _ _ hP hS dX4_mostFrom_25
  · have hg := zn hg h12
    refine lv_aload_n hx hb dX4_mostFrom_15 rfl (lv_at hl 0 rfl) ?_
    refine zget (C := RX4) (T := TX4) (N := 5) S hK hP 0 rfl rfl 1 (Nat.le_of_ble_eq_true rfl) zf_4 zw_133 rfl dX4_mostFrom_16 ?_
    refine lv_iload_n hx hb dX4_mostFrom_19 rfl (lv_at hl 1 rfl) ?_
    obtain ⟨h5, hg⟩ := zck hg
    refine ziald hx hb hK hP 1 0 rfl rfl (j := (x1.toNatClampNeg)) h5 rfl dX4_mostFrom_20 ?_
    refine lv_goto (tgt := 25) hx hb dX4_mostFrom_21 (by decide) ?_
    exact hret (v1.2.2.1 (x1.toNatClampNeg)) v1.1 v1.2.1 v1.2.2.1 v1.2.2.2 hg _ _ _ _ hP hS dX4_mostFrom_25

/-! SpokenClock.best(I)I -/
abbrev ws_X10_best (cI cJ cZ cA : ClassId) (q_X q_X_plan q_X_plan_most q_X_plan_steps q_X_now q_X_now_dues q_X_now_dues_cells q_X_now_settings q_X_refusals : Nat) (u_X_draft : Value) (u_X_text : Value) (u_X_reader : Value) (u_X_rule : Value) (u_X_day : Value) (u_X_guess : Value) (u_X_quarrel : Value) (u_X_fraction : Value) (u_X_firstImage : Value) (u_X_secondImage : Value) (u_X_kept : Value) (u_X_now_people : Value) (u_X_now_talks : Value) (u_X_now_sights : Value) (u_X_now_rule : Value) (u_X_now_stake : Value) (u_X_now_dues_limit : Value) (N_X_now_dues_cells : Nat) (v_X_plan_price : Int32) (v_X_plan_isStale : Int32) (a_X_plan_most : Nat → Int32) (a_X_plan_steps : Nat → Int64) (v_X_now_dues_width : Int32) (v_X_now_dues_size : Int32) (a_X_now_dues_cells : Nat → Int32) (a_X_now_settings : Nat → Int32) (a_X_refusals : Nat → Int32) : va_W := [(q_X, .inr (10, [.ref q_X_now, u_X_draft, u_X_text, u_X_reader, u_X_rule, u_X_day, .ref q_X_plan, u_X_guess, u_X_quarrel, u_X_fraction, u_X_firstImage, u_X_secondImage, u_X_kept, .ref q_X_refusals])), (q_X_plan, .inr (4, [.ref q_X_now, .ref q_X_plan_most, .ref q_X_plan_steps, .int v_X_plan_price, .int v_X_plan_isStale])), (q_X_plan_most, .inl (cI, 100, .inl a_X_plan_most)), (q_X_plan_steps, .inl (cJ, 495, .inr (.inl a_X_plan_steps))), (q_X_now, .inr (9, [u_X_now_people, u_X_now_talks, .ref q_X_now_dues, u_X_now_sights, u_X_now_rule, .ref q_X_now_settings, u_X_now_stake])), (q_X_now_dues, .inr (7, [.int v_X_now_dues_width, u_X_now_dues_limit, .ref q_X_now_dues_cells, .int v_X_now_dues_size])), (q_X_now_dues_cells, .inl (cI, N_X_now_dues_cells, .inl a_X_now_dues_cells)), (q_X_now_settings, .inl (cI, 3, .inl a_X_now_settings)), (q_X_refusals, .inl (cI, 3, .inl a_X_refusals))]
abbrev rm_X10_best : Room := { frames := 5, cells := 0, slots := 0, locals := 121 }
def g_X10_best (N_X_now_dues_cells : Nat) (v_X_now_dues_width : Int32) (v_X_now_dues_size : Int32) (a_X_now_dues_cells : Nat → Int32) (a_X_now_settings : Nat → Int32) (x1 : Int32) (v_X_plan_price : Int32) (v_X_plan_isStale : Int32) (a_X_plan_most : Nat → Int32) (a_X_plan_steps : Nat → Int64) (a_X_refusals : Nat → Int32) : Option (Int32 × Int32 × Int32 × (Nat → Int32) × (Nat → Int64) × (Nat → Int32)) :=
  (g_X10_isPrice x1).bind fun v1 =>
  if v1 = 0 then (
    (g_X10_refuseWorth a_X_refusals).bind fun v5 =>
    some (v5.1, v_X_plan_price, v_X_plan_isStale, a_X_plan_most, a_X_plan_steps, v5.2)
  ) else (
    (g_X4_mostFrom N_X_now_dues_cells v_X_now_dues_width v_X_now_dues_size a_X_now_dues_cells a_X_now_settings 0 x1 v_X_plan_price v_X_plan_isStale a_X_plan_most a_X_plan_steps).bind fun v3 =>
    some (v3.1, v3.2.1, v3.2.2.1, v3.2.2.2.1, v3.2.2.2.2, a_X_refusals)
  )
theorem hd_X10_best : yX10_best.cls = RX10 ∧ yX10_best.cls ≠ "java/lang/invoke/MethodHandle" ∧ yX10_best.cls ≠ "java/lang/invoke/VarHandle" ∧ (parseMethodDescriptor yX10_best.desc).map (fun d => d.parameters.length) = some 1 := by decide +kernel
set_option maxHeartbeats 4000000 in
set_option maxRecDepth 100000 in
theorem c_X10_best (l : Launch) (D : va_G) (cI cJ cZ cA : ClassId) (ga : Nat → Nat) (q_X q_X_plan q_X_plan_most q_X_plan_steps q_X_now q_X_now_dues q_X_now_dues_cells q_X_now_settings q_X_refusals : Nat) (u_X_draft : Value) (u_X_text : Value) (u_X_reader : Value) (u_X_rule : Value) (u_X_day : Value) (u_X_guess : Value) (u_X_quarrel : Value) (u_X_fraction : Value) (u_X_firstImage : Value) (u_X_secondImage : Value) (u_X_kept : Value) (u_X_now_people : Value) (u_X_now_talks : Value) (u_X_now_sights : Value) (u_X_now_rule : Value) (u_X_now_stake : Value) (u_X_now_dues_limit : Value) (N_X_now_dues_cells : Nat) (v_X_plan_price : Int32) (v_X_plan_isStale : Int32) (a_X_plan_most : Nat → Int32) (a_X_plan_steps : Nat → Int64) (v_X_now_dues_width : Int32) (v_X_now_dues_size : Int32) (a_X_now_dues_cells : Nat → Int32) (a_X_now_settings : Nat → Int32) (a_X_refusals : Nat → Int32) (x1 : Int32) (o : Int32 × Int32 × Int32 × (Nat → Int32) × (Nat → Int64) × (Nat → Int32)) (hg : g_X10_best N_X_now_dues_cells v_X_now_dues_width v_X_now_dues_size a_X_now_dues_cells a_X_now_settings x1 v_X_plan_price v_X_plan_isStale a_X_plan_most a_X_plan_steps a_X_refusals = some o) : zM l yX10_best (Cond.code yX10_best cX10_best 2 (some .int) :: wsL_law) rm_X10_best D (zTy cI cJ cZ cA) ga [.ref q_X, .int x1] (ws_X10_best cI cJ cZ cA q_X q_X_plan q_X_plan_most q_X_plan_steps q_X_now q_X_now_dues q_X_now_dues_cells q_X_now_settings q_X_refusals u_X_draft u_X_text u_X_reader u_X_rule u_X_day u_X_guess u_X_quarrel u_X_fraction u_X_firstImage u_X_secondImage u_X_kept u_X_now_people u_X_now_talks u_X_now_sights u_X_now_rule u_X_now_stake u_X_now_dues_limit N_X_now_dues_cells v_X_plan_price v_X_plan_isStale a_X_plan_most a_X_plan_steps v_X_now_dues_width v_X_now_dues_size a_X_now_dues_cells a_X_now_settings a_X_refusals) (ws_X10_best cI cJ cZ cA q_X q_X_plan q_X_plan_most q_X_plan_steps q_X_now q_X_now_dues q_X_now_dues_cells q_X_now_settings q_X_refusals u_X_draft u_X_text u_X_reader u_X_rule u_X_day u_X_guess u_X_quarrel u_X_fraction u_X_firstImage u_X_secondImage u_X_kept u_X_now_people u_X_now_talks u_X_now_sights u_X_now_rule u_X_now_stake u_X_now_dues_limit N_X_now_dues_cells o.2.1 o.2.2.1 o.2.2.2.1 o.2.2.2.2.1 v_X_now_dues_width v_X_now_dues_size a_X_now_dues_cells a_X_now_settings o.2.2.2.2.2) (some (.int o.1)) := by
  refine zenterI (own := RX10) (by decide) rfl rfl (Nat.le_of_ble_eq_true rfl) ?_
  intro p e s m args below meth c A ls Q S hA hK hG hl hP hD hS hret0
  have hx := S.1
  have hb := S.2.1
  have ht : ∀ w, w ∈ wsL_law → w.before args s = true := fun w h => S.2.2.2.2 w (List.mem_cons_of_mem _ h)
  have hret : ∀ (r9 : Int32) (v_X_plan_price : Int32) (v_X_plan_isStale : Int32) (a_X_plan_most : Nat → Int32) (a_X_plan_steps : Nat → Int64) (a_X_refusals : Nat → Int32), (some (r9, v_X_plan_price, v_X_plan_isStale, a_X_plan_most, a_X_plan_steps, a_X_refusals) : Option (Int32 × Int32 × Int32 × (Nat → Int32) × (Nat → Int64) × (Nat → Int32))) = some o → ∀ (H : Heap) (locs : List Loc) (pc : Nat) (ls : Array Slot), va_P D vwCl (ws_X10_best cI cJ cZ cA q_X q_X_plan q_X_plan_most q_X_plan_steps q_X_now q_X_now_dues q_X_now_dues_cells q_X_now_settings q_X_refusals u_X_draft u_X_text u_X_reader u_X_rule u_X_day u_X_guess u_X_quarrel u_X_fraction u_X_firstImage u_X_secondImage u_X_kept u_X_now_people u_X_now_talks u_X_now_sights u_X_now_rule u_X_now_stake u_X_now_dues_limit N_X_now_dues_cells v_X_plan_price v_X_plan_isStale a_X_plan_most a_X_plan_steps v_X_now_dues_width v_X_now_dues_size a_X_now_dues_cells a_X_now_settings a_X_refusals) H → va_S A s.heap H locs → decode cX10_best pc = .ok (.ireturn, 1) → W p l e rm_X10_best s m args below meth c H locs 0 0 Q (F0 m pc ls [.int r9]) := by
    intro r9 v_X_plan_price v_X_plan_isStale a_X_plan_most a_X_plan_steps a_X_refusals he; cases he; exact hret0
  have hl : lv_has ls 2 [(0, .ref q_X), (1, .int x1)] := hl
  refine lv_iload_n hx hb dX10_best_0 rfl (lv_at hl 1 rfl) ?_
  obtain ⟨v1, hc2, hg⟩ := zbd hg
  refine zcallS (rest := []) S (c_X10_isPrice l D cI cJ cZ cA ga x1 v1 hc2) (zgS zw_777 zw_778 zw_2 zw_779) rfl hd_X10_isPrice ⟨rfl, rfl⟩ ⟨Nat.le_of_ble_eq_true rfl, Nat.le_of_ble_eq_true rfl⟩ rfl hl.1 rfl (Nat.le_of_ble_eq_true rfl) dX10_best_1 hP hD hS hA hK hG (isC := []) rfl (by decide +kernel) rfl ⟨Nat.zero_le _, Nat.zero_le _⟩ (pl := [none, none, none, none, none, none, none, none, none]) (nw := 9) rfl (by decide +kernel) (w2 := (ws_X10_best cI cJ cZ cA q_X q_X_plan q_X_plan_most q_X_plan_steps q_X_now q_X_now_dues q_X_now_dues_cells q_X_now_settings q_X_refusals u_X_draft u_X_text u_X_reader u_X_rule u_X_day u_X_guess u_X_quarrel u_X_fraction u_X_firstImage u_X_secondImage u_X_kept u_X_now_people u_X_now_talks u_X_now_sights u_X_now_rule u_X_now_stake u_X_now_dues_limit N_X_now_dues_cells v_X_plan_price v_X_plan_isStale a_X_plan_most a_X_plan_steps v_X_now_dues_width v_X_now_dues_size a_X_now_dues_cells a_X_now_settings a_X_refusals)) rfl (st1 := [.int v1]) rfl (fun H locs hP hD hS => ?_)
  refine lv_if_ne (tgt := 12) hx hb dX10_best_4 (by decide) (fun h4 => ?_) (fun h4 => ?_)
  · have hg := zn hg h4
    refine lv_aload_n hx hb dX10_best_12 rfl (lv_at hl 0 rfl) ?_
    refine zget (C := RX10) (T := TX10) (N := 14) S hK hP 0 rfl rfl 6 (Nat.le_of_ble_eq_true rfl) zf_10 zw_46 rfl dX10_best_13 ?_
    refine lv_iconst (v := 0) hx hb dX10_best_16 (by decide) ?_
    refine lv_iload_n hx hb dX10_best_17 rfl (lv_at hl 1 rfl) ?_
    obtain ⟨v3, hc4, hg⟩ := zbd hg
    refine zcallV (rest := []) S (c_X4_mostFrom l D cI cJ cZ cA ga q_X_plan q_X_plan_most q_X_plan_steps q_X_now q_X_now_dues q_X_now_dues_cells q_X_now_settings u_X_now_people u_X_now_talks u_X_now_sights u_X_now_rule u_X_now_stake u_X_now_dues_limit N_X_now_dues_cells v_X_plan_price v_X_plan_isStale a_X_plan_most a_X_plan_steps v_X_now_dues_width v_X_now_dues_size a_X_now_dues_cells a_X_now_settings 0 x1 v3 hc4) (zgV zw_780 zw_781 zw_782 zw_45 zw_783) rfl hd_X4_mostFrom ⟨rfl, rfl⟩ ⟨Nat.le_of_ble_eq_true rfl, Nat.le_of_ble_eq_true rfl⟩ 1 4 rfl rfl rfl hl.1 rfl (Nat.le_of_ble_eq_true rfl) dX10_best_18 hP hD hS hA hK hG (isC := [1, 2, 3, 4, 5, 6, 7]) rfl (by decide +kernel) rfl ⟨Nat.zero_le _, Nat.zero_le _⟩ (pl := [none, some 0, some 1, some 2, some 3, some 4, some 5, some 6, none]) (nw := 9) rfl (by decide +kernel) (w2 := (ws_X10_best cI cJ cZ cA q_X q_X_plan q_X_plan_most q_X_plan_steps q_X_now q_X_now_dues q_X_now_dues_cells q_X_now_settings q_X_refusals u_X_draft u_X_text u_X_reader u_X_rule u_X_day u_X_guess u_X_quarrel u_X_fraction u_X_firstImage u_X_secondImage u_X_kept u_X_now_people u_X_now_talks u_X_now_sights u_X_now_rule u_X_now_stake u_X_now_dues_limit N_X_now_dues_cells v3.2.1 v3.2.2.1 v3.2.2.2.1 v3.2.2.2.2 v_X_now_dues_width v_X_now_dues_size a_X_now_dues_cells a_X_now_settings a_X_refusals)) rfl (st1 := [.int v3.1]) rfl (fun H locs hP hD hS => ?_)
    exact hret v3.1 v3.2.1 v3.2.2.1 v3.2.2.2.1 v3.2.2.2.2 a_X_refusals hg _ _ _ _ hP hS dX10_best_21
  · have hg := zp hg h4
    refine lv_aload_n hx hb dX10_best_7 rfl (lv_at hl 0 rfl) ?_
    obtain ⟨v5, hc6, hg⟩ := zbd hg
    refine zcallV (rest := []) S (c_X10_refuseWorth l D cI cJ cZ cA ga q_X q_X_refusals (.ref q_X_now) u_X_draft u_X_text u_X_reader u_X_rule u_X_day (.ref q_X_plan) u_X_guess u_X_quarrel u_X_fraction u_X_firstImage u_X_secondImage u_X_kept a_X_refusals v5 hc6) (zgV zw_756 zw_757 zw_758 zw_2 zw_759) rfl hd_X10_refuseWorth ⟨rfl, rfl⟩ ⟨Nat.le_of_ble_eq_true rfl, Nat.le_of_ble_eq_true rfl⟩ 0 10 rfl rfl rfl hl.1 rfl (Nat.le_of_ble_eq_true rfl) dX10_best_8 hP hD hS hA hK hG (isC := [0, 8]) rfl (by decide +kernel) rfl ⟨Nat.zero_le _, Nat.zero_le _⟩ (pl := [some 0, none, none, none, none, none, none, none, some 1]) (nw := 9) rfl (by decide +kernel) (w2 := (ws_X10_best cI cJ cZ cA q_X q_X_plan q_X_plan_most q_X_plan_steps q_X_now q_X_now_dues q_X_now_dues_cells q_X_now_settings q_X_refusals u_X_draft u_X_text u_X_reader u_X_rule u_X_day u_X_guess u_X_quarrel u_X_fraction u_X_firstImage u_X_secondImage u_X_kept u_X_now_people u_X_now_talks u_X_now_sights u_X_now_rule u_X_now_stake u_X_now_dues_limit N_X_now_dues_cells v_X_plan_price v_X_plan_isStale a_X_plan_most a_X_plan_steps v_X_now_dues_width v_X_now_dues_size a_X_now_dues_cells a_X_now_settings v5.2)) rfl (st1 := [.int v5.1]) rfl (fun H locs hP hD hS => ?_)
    exact hret v5.1 v_X_plan_price v_X_plan_isStale a_X_plan_most a_X_plan_steps v5.2 hg _ _ _ _ hP hS dX10_best_11

/-! SpokenClock$Plan.stepAt(II)I -/
abbrev ws_X4_stepAt (cI cJ cZ cA : ClassId) (q_X_plan q_X_plan_steps : Nat) (u_X_plan_state : Value) (u_X_plan_most : Value) (u_X_plan_price : Value) (u_X_plan_isStale : Value) (a_X_plan_steps : Nat → Int64) : va_W := [(q_X_plan, .inr (4, [u_X_plan_state, u_X_plan_most, .ref q_X_plan_steps, u_X_plan_price, u_X_plan_isStale])), (q_X_plan_steps, .inl (cJ, 495, .inr (.inl a_X_plan_steps)))]
abbrev rm_X4_stepAt : Room := { frames := 1, cells := 0, slots := 0, locals := 22 }
def g_X4_stepAt (a_X_plan_steps : Nat → Int64) (x1 : Int32) (x2 : Int32) : Option (Int32) :=
  (g_X10_isIn x1 0 98).bind fun v1 =>
  if v1 = 0 then (
    some (0)
  ) else (
    (g_X10_isIn x2 0 99).bind fun v3 =>
    if v3 = 0 then (
      some (0)
    ) else (
      if ((x1 * 5) + (x2 / 20)) < 0 ∨ 495 ≤ ((x1 * 5) + (x2 / 20)).toNatClampNeg then none else
      some ((((a_X_plan_steps (((x1 * 5) + (x2 / 20)).toNatClampNeg)) >>> ((3 * (x2 - x2 / 20 * 20)).toInt64 &&& 63)).toInt32) &&& 7)
    )
  )
theorem hd_X4_stepAt : yX4_stepAt.cls = RX4 ∧ yX4_stepAt.cls ≠ "java/lang/invoke/MethodHandle" ∧ yX4_stepAt.cls ≠ "java/lang/invoke/VarHandle" ∧ (parseMethodDescriptor yX4_stepAt.desc).map (fun d => d.parameters.length) = some 2 := by decide +kernel
set_option maxHeartbeats 4000000 in
set_option maxRecDepth 100000 in
theorem c_X4_stepAt (l : Launch) (D : va_G) (cI cJ cZ cA : ClassId) (ga : Nat → Nat) (q_X_plan q_X_plan_steps : Nat) (u_X_plan_state : Value) (u_X_plan_most : Value) (u_X_plan_price : Value) (u_X_plan_isStale : Value) (a_X_plan_steps : Nat → Int64) (x1 : Int32) (x2 : Int32) (o : Int32) (hg : g_X4_stepAt a_X_plan_steps x1 x2 = some o) : zM l yX4_stepAt (Cond.code yX4_stepAt cX4_stepAt 4 (some .int) :: wsL_law) rm_X4_stepAt D (zTy cI cJ cZ cA) ga [.ref q_X_plan, .int x1, .int x2] (ws_X4_stepAt cI cJ cZ cA q_X_plan q_X_plan_steps u_X_plan_state u_X_plan_most u_X_plan_price u_X_plan_isStale a_X_plan_steps) (ws_X4_stepAt cI cJ cZ cA q_X_plan q_X_plan_steps u_X_plan_state u_X_plan_most u_X_plan_price u_X_plan_isStale a_X_plan_steps) (some (.int o)) := by
  refine zenterI (own := RX4) (by decide) rfl rfl (Nat.le_of_ble_eq_true rfl) ?_
  intro p e s m args below meth c A ls Q S hA hK hG hl hP hD hS hret0
  have hx := S.1
  have hb := S.2.1
  have ht : ∀ w, w ∈ wsL_law → w.before args s = true := fun w h => S.2.2.2.2 w (List.mem_cons_of_mem _ h)
  have hret : ∀ (r9 : Int32), (some (r9) : Option (Int32)) = some o → ∀ (H : Heap) (locs : List Loc) (pc : Nat) (ls : Array Slot), va_P D vwCl (ws_X4_stepAt cI cJ cZ cA q_X_plan q_X_plan_steps u_X_plan_state u_X_plan_most u_X_plan_price u_X_plan_isStale a_X_plan_steps) H → va_S A s.heap H locs → decode cX4_stepAt pc = .ok (.ireturn, 1) → W p l e rm_X4_stepAt s m args below meth c H locs 0 0 Q (F0 m pc ls [.int r9]) := by
    intro r9 he; cases he; exact hret0
  have hl : lv_has ls 4 [(0, .ref q_X_plan), (1, .int x1), (2, .int x2)] := hl
  refine lv_iload_n hx hb dX4_stepAt_0 rfl (lv_at hl 1 rfl) ?_
  refine lv_iconst (v := 0) hx hb dX4_stepAt_1 (by decide) ?_
  refine lv_bipush (v := 98) hx hb dX4_stepAt_2 (by decide) ?_
  obtain ⟨v1, hc2, hg⟩ := zbd hg
  refine zcallSN (rest := []) S (c_X10_isIn l D cI cJ cZ cA ga x1 0 98 v1 hc2) (zgI zw_190) rfl hd_X10_isIn hG.1.2.1.2.2.2.2.2.2.1 (List.mem_cons_of_mem _ zw_2) (List.mem_cons_of_mem _ zw_189) ⟨rfl, rfl⟩ ⟨Nat.le_of_ble_eq_true rfl, Nat.le_of_ble_eq_true rfl⟩ rfl hl.1 rfl (Nat.le_of_ble_eq_true rfl) dX4_stepAt_4 hP hD hS hA hK hG (isC := []) rfl (by decide +kernel) rfl ⟨Nat.zero_le _, Nat.zero_le _⟩ (pl := [none, none]) (nw := 2) rfl (by decide +kernel) (w2 := (ws_X4_stepAt cI cJ cZ cA q_X_plan q_X_plan_steps u_X_plan_state u_X_plan_most u_X_plan_price u_X_plan_isStale a_X_plan_steps)) rfl (st1 := [.int v1]) rfl (fun H locs hP hD hS => ?_)
  refine lv_if_eq (tgt := 20) hx hb dX4_stepAt_7 (by decide) (fun h7 => ?_) (fun h7 => ?_)
  · have hg := zp hg h7
    refine lv_iconst (v := 0) hx hb dX4_stepAt_20 (by decide) ?_
    exact hret 0 hg _ _ _ _ hP hS dX4_stepAt_21
  · have hg := zn hg h7
    refine lv_iload_n hx hb dX4_stepAt_10 rfl (lv_at hl 2 rfl) ?_
    refine lv_iconst (v := 0) hx hb dX4_stepAt_11 (by decide) ?_
    refine lv_bipush (v := 99) hx hb dX4_stepAt_12 (by decide) ?_
    obtain ⟨v3, hc4, hg⟩ := zbd hg
    refine zcallSN (rest := []) S (c_X10_isIn l D cI cJ cZ cA ga x2 0 99 v3 hc4) (zgI zw_190) rfl hd_X10_isIn hG.1.2.1.2.2.2.2.2.2.1 (List.mem_cons_of_mem _ zw_2) (List.mem_cons_of_mem _ zw_189) ⟨rfl, rfl⟩ ⟨Nat.le_of_ble_eq_true rfl, Nat.le_of_ble_eq_true rfl⟩ rfl hl.1 rfl (Nat.le_of_ble_eq_true rfl) dX4_stepAt_14 hP hD hS hA hK hG (isC := []) rfl (by decide +kernel) rfl ⟨Nat.zero_le _, Nat.zero_le _⟩ (pl := [none, none]) (nw := 2) rfl (by decide +kernel) (w2 := (ws_X4_stepAt cI cJ cZ cA q_X_plan q_X_plan_steps u_X_plan_state u_X_plan_most u_X_plan_price u_X_plan_isStale a_X_plan_steps)) rfl (st1 := [.int v3]) rfl (fun H locs hP hD hS => ?_)
    refine lv_if_ne (tgt := 22) hx hb dX4_stepAt_17 (by decide) (fun h17 => ?_) (fun h17 => ?_)
    · have hg := zn hg h17
      refine lv_iload_n hx hb dX4_stepAt_22 rfl (lv_at hl 1 rfl) ?_
      refine lv_iconst (v := 5) hx hb dX4_stepAt_23 (by decide) ?_
      refine lv_imul hx hb dX4_stepAt_24 ?_
      refine lv_iload_n hx hb dX4_stepAt_25 rfl (lv_at hl 2 rfl) ?_
      refine lv_bipush (v := 20) hx hb dX4_stepAt_26 (by decide) ?_
      refine lv_idiv hx hb dX4_stepAt_28 (by decide) ?_
      refine lv_iadd hx hb dX4_stepAt_29 ?_
      refine lv_istore_n (lv' := [(3, .int ((x1 * 5) + (x2 / 20))), (0, .ref q_X_plan), (1, .int x1), (2, .int x2)]) hx hb dX4_stepAt_30 rfl hl (by decide) rfl (fun ls hl => ?_)
      refine lv_aload_n hx hb dX4_stepAt_31 rfl (lv_at hl 1 rfl) ?_
      refine zget (C := RX4) (T := TX4) (N := 5) S hK hP 0 rfl rfl 2 (Nat.le_of_ble_eq_true rfl) zf_4 zw_134 rfl dX4_stepAt_32 ?_
      refine lv_iload_n hx hb dX4_stepAt_35 rfl (lv_at hl 0 rfl) ?_
      obtain ⟨h5, hg⟩ := zck hg
      refine zlald hx hb hK hP 1 1 rfl rfl (j := (((x1 * 5) + (x2 / 20)).toNatClampNeg)) h5 rfl dX4_stepAt_36 ?_
      refine lv_iconst (v := 3) hx hb dX4_stepAt_37 (by decide) ?_
      refine lv_iload_n hx hb dX4_stepAt_38 rfl (lv_at hl 3 rfl) ?_
      refine lv_bipush (v := 20) hx hb dX4_stepAt_39 (by decide) ?_
      refine lv_irem hx hb dX4_stepAt_41 (by decide) ?_
      refine lv_imul hx hb dX4_stepAt_42 ?_
      refine lv_lshr hx hb dX4_stepAt_43 rfl ?_
      refine lv_l2i hx hb dX4_stepAt_44 rfl ?_
      refine lv_bipush (v := 7) hx hb dX4_stepAt_45 (by decide) ?_
      refine lv_iand hx hb dX4_stepAt_47 ?_
      exact hret ((((a_X_plan_steps (((x1 * 5) + (x2 / 20)).toNatClampNeg)) >>> ((3 * (x2 - x2 / 20 * 20)).toInt64 &&& 63)).toInt32) &&& 7) hg _ _ _ _ hP hS dX4_stepAt_48
    · have hg := zp hg h17
      refine lv_iconst (v := 0) hx hb dX4_stepAt_20 (by decide) ?_
      exact hret 0 hg _ _ _ _ hP hS dX4_stepAt_21

/-! SpokenClock$Plan.stepIn(II)I -/
abbrev ws_X4_stepIn (cI cJ cZ cA : ClassId) (q_X_plan q_X_plan_most q_X_plan_steps q_X_now q_X_now_dues q_X_now_dues_cells q_X_now_settings : Nat) (u_X_now_people : Value) (u_X_now_talks : Value) (u_X_now_sights : Value) (u_X_now_rule : Value) (u_X_now_stake : Value) (u_X_now_dues_limit : Value) (N_X_now_dues_cells : Nat) (v_X_plan_price : Int32) (v_X_plan_isStale : Int32) (a_X_plan_most : Nat → Int32) (a_X_plan_steps : Nat → Int64) (v_X_now_dues_width : Int32) (v_X_now_dues_size : Int32) (a_X_now_dues_cells : Nat → Int32) (a_X_now_settings : Nat → Int32) : va_W := [(q_X_plan, .inr (4, [.ref q_X_now, .ref q_X_plan_most, .ref q_X_plan_steps, .int v_X_plan_price, .int v_X_plan_isStale])), (q_X_plan_most, .inl (cI, 100, .inl a_X_plan_most)), (q_X_plan_steps, .inl (cJ, 495, .inr (.inl a_X_plan_steps))), (q_X_now, .inr (9, [u_X_now_people, u_X_now_talks, .ref q_X_now_dues, u_X_now_sights, u_X_now_rule, .ref q_X_now_settings, u_X_now_stake])), (q_X_now_dues, .inr (7, [.int v_X_now_dues_width, u_X_now_dues_limit, .ref q_X_now_dues_cells, .int v_X_now_dues_size])), (q_X_now_dues_cells, .inl (cI, N_X_now_dues_cells, .inl a_X_now_dues_cells)), (q_X_now_settings, .inl (cI, 3, .inl a_X_now_settings))]
abbrev rm_X4_stepIn : Room := { frames := 4, cells := 0, slots := 0, locals := 99 }
def g_X4_stepIn_44 (N_X_now_dues_cells : Nat) (v_X_now_dues_width : Int32) (v_X_now_dues_size : Int32) (a_X_now_dues_cells : Nat → Int32) (a_X_now_settings : Nat → Int32) (x1 : Int32) (x2 : Int32) (x3 : Int32) (v_X_plan_price : Int32) (v_X_plan_isStale : Int32) (a_X_plan_most : Nat → Int32) (a_X_plan_steps : Nat → Int64) : Option (Int32 × Int32 × Int32 × (Nat → Int32) × (Nat → Int64)) :=
  (g_X4_stepAt a_X_plan_steps x1 x3).bind fun v3 =>
  some (v3, v_X_plan_price, v_X_plan_isStale, a_X_plan_most, a_X_plan_steps)
def g_X4_stepIn_10b (N_X_now_dues_cells : Nat) (v_X_now_dues_width : Int32) (v_X_now_dues_size : Int32) (a_X_now_dues_cells : Nat → Int32) (a_X_now_settings : Nat → Int32) (x1 : Int32) (x2 : Int32) (k10 : Int32 → Int32 → Int32 → Int32 → (Nat → Int32) → (Nat → Int64) → Option (Int32 × Int32 × Int32 × (Nat → Int32) × (Nat → Int64))) (x3 : Int32) (x4 : Int32) (v_X_plan_price : Int32) (v_X_plan_isStale : Int32) (a_X_plan_most : Nat → Int32) (a_X_plan_steps : Nat → Int64) : Option (Int32 × Int32 × Int32 × (Nat → Int32) × (Nat → Int64)) :=
  if x1 ≤ x4 then (
    g_X4_stepIn_44 N_X_now_dues_cells v_X_now_dues_width v_X_now_dues_size a_X_now_dues_cells a_X_now_settings x1 x2 x3 v_X_plan_price v_X_plan_isStale a_X_plan_most a_X_plan_steps
  ) else (
    if 99 ≤ x4 then (
      g_X4_stepIn_44 N_X_now_dues_cells v_X_now_dues_width v_X_now_dues_size a_X_now_dues_cells a_X_now_settings x1 x2 x3 v_X_plan_price v_X_plan_isStale a_X_plan_most a_X_plan_steps
    ) else (
      (g_X4_stepAt a_X_plan_steps x4 x3).bind fun v5 =>
      k10 (if (99 : Int32) < (x3 + v5) then (99 : Int32) else (x3 + v5)) (x4 + 1) v_X_plan_price v_X_plan_isStale a_X_plan_most a_X_plan_steps
    )
  )
def g_X4_stepIn_10 (N_X_now_dues_cells : Nat) (v_X_now_dues_width : Int32) (v_X_now_dues_size : Int32) (a_X_now_dues_cells : Nat → Int32) (a_X_now_settings : Nat → Int32) (x1 : Int32) (x2 : Int32) : Nat → Int32 → Int32 → Int32 → Int32 → (Nat → Int32) → (Nat → Int64) → Option (Int32 × Int32 × Int32 × (Nat → Int32) × (Nat → Int64))
  | 0, _, _, _, _, _, _ => none
  | n + 1, x3, x4, v_X_plan_price, v_X_plan_isStale, a_X_plan_most, a_X_plan_steps => g_X4_stepIn_10b N_X_now_dues_cells v_X_now_dues_width v_X_now_dues_size a_X_now_dues_cells a_X_now_settings x1 x2 (g_X4_stepIn_10 N_X_now_dues_cells v_X_now_dues_width v_X_now_dues_size a_X_now_dues_cells a_X_now_settings x1 x2 n) x3 x4 v_X_plan_price v_X_plan_isStale a_X_plan_most a_X_plan_steps
def g_X4_stepIn (N_X_now_dues_cells : Nat) (v_X_now_dues_width : Int32) (v_X_now_dues_size : Int32) (a_X_now_dues_cells : Nat → Int32) (a_X_now_settings : Nat → Int32) (x1 : Int32) (x2 : Int32) (v_X_plan_price : Int32) (v_X_plan_isStale : Int32) (a_X_plan_most : Nat → Int32) (a_X_plan_steps : Nat → Int64) : Option (Int32 × Int32 × Int32 × (Nat → Int32) × (Nat → Int64)) :=
  (g_X4_refresh N_X_now_dues_cells v_X_now_dues_width v_X_now_dues_size a_X_now_dues_cells a_X_now_settings x2 v_X_plan_price v_X_plan_isStale a_X_plan_most a_X_plan_steps).bind fun v1 =>
  g_X4_stepIn_10 N_X_now_dues_cells v_X_now_dues_width v_X_now_dues_size a_X_now_dues_cells a_X_now_settings x1 x2 zF 0 0 v1.1 v1.2.1 v1.2.2.1 v1.2.2.2
theorem hd_X4_stepIn : yX4_stepIn.cls = RX4 ∧ yX4_stepIn.cls ≠ "java/lang/invoke/MethodHandle" ∧ yX4_stepIn.cls ≠ "java/lang/invoke/VarHandle" ∧ (parseMethodDescriptor yX4_stepIn.desc).map (fun d => d.parameters.length) = some 2 := by decide +kernel
set_option maxHeartbeats 4000000 in
set_option maxRecDepth 100000 in
theorem c_X4_stepIn (l : Launch) (D : va_G) (cI cJ cZ cA : ClassId) (ga : Nat → Nat) (q_X_plan q_X_plan_most q_X_plan_steps q_X_now q_X_now_dues q_X_now_dues_cells q_X_now_settings : Nat) (u_X_now_people : Value) (u_X_now_talks : Value) (u_X_now_sights : Value) (u_X_now_rule : Value) (u_X_now_stake : Value) (u_X_now_dues_limit : Value) (N_X_now_dues_cells : Nat) (v_X_plan_price : Int32) (v_X_plan_isStale : Int32) (a_X_plan_most : Nat → Int32) (a_X_plan_steps : Nat → Int64) (v_X_now_dues_width : Int32) (v_X_now_dues_size : Int32) (a_X_now_dues_cells : Nat → Int32) (a_X_now_settings : Nat → Int32) (x1 : Int32) (x2 : Int32) (o : Int32 × Int32 × Int32 × (Nat → Int32) × (Nat → Int64)) (hg : g_X4_stepIn N_X_now_dues_cells v_X_now_dues_width v_X_now_dues_size a_X_now_dues_cells a_X_now_settings x1 x2 v_X_plan_price v_X_plan_isStale a_X_plan_most a_X_plan_steps = some o) : zM l yX4_stepIn (Cond.code yX4_stepIn cX4_stepIn 5 (some .int) :: wsL_law) rm_X4_stepIn D (zTy cI cJ cZ cA) ga [.ref q_X_plan, .int x1, .int x2] (ws_X4_stepIn cI cJ cZ cA q_X_plan q_X_plan_most q_X_plan_steps q_X_now q_X_now_dues q_X_now_dues_cells q_X_now_settings u_X_now_people u_X_now_talks u_X_now_sights u_X_now_rule u_X_now_stake u_X_now_dues_limit N_X_now_dues_cells v_X_plan_price v_X_plan_isStale a_X_plan_most a_X_plan_steps v_X_now_dues_width v_X_now_dues_size a_X_now_dues_cells a_X_now_settings) (ws_X4_stepIn cI cJ cZ cA q_X_plan q_X_plan_most q_X_plan_steps q_X_now q_X_now_dues q_X_now_dues_cells q_X_now_settings u_X_now_people u_X_now_talks u_X_now_sights u_X_now_rule u_X_now_stake u_X_now_dues_limit N_X_now_dues_cells o.2.1 o.2.2.1 o.2.2.2.1 o.2.2.2.2 v_X_now_dues_width v_X_now_dues_size a_X_now_dues_cells a_X_now_settings) (some (.int o.1)) := by
  refine zenterI (own := RX4) (by decide) rfl rfl (Nat.le_of_ble_eq_true rfl) ?_
  intro p e s m args below meth c A ls Q S hA hK hG hl hP hD hS hret0
  have hx := S.1
  have hb := S.2.1
  have ht : ∀ w, w ∈ wsL_law → w.before args s = true := fun w h => S.2.2.2.2 w (List.mem_cons_of_mem _ h)
  have hret : ∀ (r9 : Int32) (v_X_plan_price : Int32) (v_X_plan_isStale : Int32) (a_X_plan_most : Nat → Int32) (a_X_plan_steps : Nat → Int64), (some (r9, v_X_plan_price, v_X_plan_isStale, a_X_plan_most, a_X_plan_steps) : Option (Int32 × Int32 × Int32 × (Nat → Int32) × (Nat → Int64))) = some o → ∀ (H : Heap) (locs : List Loc) (pc : Nat) (ls : Array Slot), va_P D vwCl (ws_X4_stepIn cI cJ cZ cA q_X_plan q_X_plan_most q_X_plan_steps q_X_now q_X_now_dues q_X_now_dues_cells q_X_now_settings u_X_now_people u_X_now_talks u_X_now_sights u_X_now_rule u_X_now_stake u_X_now_dues_limit N_X_now_dues_cells v_X_plan_price v_X_plan_isStale a_X_plan_most a_X_plan_steps v_X_now_dues_width v_X_now_dues_size a_X_now_dues_cells a_X_now_settings) H → va_S A s.heap H locs → decode cX4_stepIn pc = .ok (.ireturn, 1) → W p l e rm_X4_stepIn s m args below meth c H locs 0 0 Q (F0 m pc ls [.int r9]) := by
    intro r9 v_X_plan_price v_X_plan_isStale a_X_plan_most a_X_plan_steps he; cases he; exact hret0
  have hl : lv_has ls 5 [(0, .ref q_X_plan), (1, .int x1), (2, .int x2)] := hl
  have B44 : ∀ (x3 : Int32) (v_X_plan_price : Int32) (v_X_plan_isStale : Int32) (a_X_plan_most : Nat → Int32) (a_X_plan_steps : Nat → Int64) (H : Heap) (locs : List Loc) (ls : Array Slot) (hl : lv_has ls 5 [(0, .ref q_X_plan), (1, .int x1), (3, .int x3)]) (hP : va_P D vwCl (ws_X4_stepIn cI cJ cZ cA q_X_plan q_X_plan_most q_X_plan_steps q_X_now q_X_now_dues q_X_now_dues_cells q_X_now_settings u_X_now_people u_X_now_talks u_X_now_sights u_X_now_rule u_X_now_stake u_X_now_dues_limit N_X_now_dues_cells v_X_plan_price v_X_plan_isStale a_X_plan_most a_X_plan_steps v_X_now_dues_width v_X_now_dues_size a_X_now_dues_cells a_X_now_settings) H) (hD : va_D A (ws_X4_stepIn cI cJ cZ cA q_X_plan q_X_plan_most q_X_plan_steps q_X_now q_X_now_dues q_X_now_dues_cells q_X_now_settings u_X_now_people u_X_now_talks u_X_now_sights u_X_now_rule u_X_now_stake u_X_now_dues_limit N_X_now_dues_cells v_X_plan_price v_X_plan_isStale a_X_plan_most a_X_plan_steps v_X_now_dues_width v_X_now_dues_size a_X_now_dues_cells a_X_now_settings)) (hS : va_S A s.heap H locs), g_X4_stepIn_44 N_X_now_dues_cells v_X_now_dues_width v_X_now_dues_size a_X_now_dues_cells a_X_now_settings x1 x2 x3 v_X_plan_price v_X_plan_isStale a_X_plan_most a_X_plan_steps = some o → W p l e rm_X4_stepIn s m args below meth c H locs 0 0 Q (F0 m 44 ls []) := by
    intro  x3 v_X_plan_price v_X_plan_isStale a_X_plan_most a_X_plan_steps H locs ls hl hP hD hS hg
    refine lv_aload_n hx hb dX4_stepIn_44 rfl (lv_at hl 0 rfl) ?_
    refine lv_iload_n hx hb dX4_stepIn_45 rfl (lv_at hl 1 rfl) ?_
    refine lv_iload_n hx hb dX4_stepIn_46 rfl (lv_at hl 2 rfl) ?_
    obtain ⟨v3, hc4, hg⟩ := zbd hg
    refine zcallV (rest := []) S (c_X4_stepAt l D cI cJ cZ cA ga q_X_plan q_X_plan_steps (.ref q_X_now) (.ref q_X_plan_most) (.int v_X_plan_price) (.int v_X_plan_isStale) a_X_plan_steps x1 x3 v3 hc4) (zgV zw_829 zw_830 zw_831 zw_45 zw_832) rfl hd_X4_stepAt ⟨rfl, rfl⟩ ⟨Nat.le_of_ble_eq_true rfl, Nat.le_of_ble_eq_true rfl⟩ 0 4 rfl rfl rfl hl.1 rfl (Nat.le_of_ble_eq_true rfl) dX4_stepIn_47 hP hD hS hA hK hG (isC := [0, 2]) rfl (by decide +kernel) rfl ⟨Nat.zero_le _, Nat.zero_le _⟩ (pl := [some 0, none, some 1, none, none, none, none]) (nw := 7) rfl (by decide +kernel) (w2 := (ws_X4_stepIn cI cJ cZ cA q_X_plan q_X_plan_most q_X_plan_steps q_X_now q_X_now_dues q_X_now_dues_cells q_X_now_settings u_X_now_people u_X_now_talks u_X_now_sights u_X_now_rule u_X_now_stake u_X_now_dues_limit N_X_now_dues_cells v_X_plan_price v_X_plan_isStale a_X_plan_most a_X_plan_steps v_X_now_dues_width v_X_now_dues_size a_X_now_dues_cells a_X_now_settings)) rfl (st1 := [.int v3]) rfl (fun H locs hP hD hS => ?_)
    exact hret v3 v_X_plan_price v_X_plan_isStale a_X_plan_most a_X_plan_steps hg _ _ _ _ hP hS dX4_stepIn_50
  have B10 : ∀  (n : Nat) (x3 : Int32) (x4 : Int32) (v_X_plan_price : Int32) (v_X_plan_isStale : Int32) (a_X_plan_most : Nat → Int32) (a_X_plan_steps : Nat → Int64) (H : Heap) (locs : List Loc) (ls : Array Slot) (hl : lv_has ls 5 [(0, .ref q_X_plan), (1, .int x1), (3, .int x3), (4, .int x4)]) (hP : va_P D vwCl (ws_X4_stepIn cI cJ cZ cA q_X_plan q_X_plan_most q_X_plan_steps q_X_now q_X_now_dues q_X_now_dues_cells q_X_now_settings u_X_now_people u_X_now_talks u_X_now_sights u_X_now_rule u_X_now_stake u_X_now_dues_limit N_X_now_dues_cells v_X_plan_price v_X_plan_isStale a_X_plan_most a_X_plan_steps v_X_now_dues_width v_X_now_dues_size a_X_now_dues_cells a_X_now_settings) H) (hD : va_D A (ws_X4_stepIn cI cJ cZ cA q_X_plan q_X_plan_most q_X_plan_steps q_X_now q_X_now_dues q_X_now_dues_cells q_X_now_settings u_X_now_people u_X_now_talks u_X_now_sights u_X_now_rule u_X_now_stake u_X_now_dues_limit N_X_now_dues_cells v_X_plan_price v_X_plan_isStale a_X_plan_most a_X_plan_steps v_X_now_dues_width v_X_now_dues_size a_X_now_dues_cells a_X_now_settings)) (hS : va_S A s.heap H locs), g_X4_stepIn_10 N_X_now_dues_cells v_X_now_dues_width v_X_now_dues_size a_X_now_dues_cells a_X_now_settings x1 x2 n x3 x4 v_X_plan_price v_X_plan_isStale a_X_plan_most a_X_plan_steps = some o → W p l e rm_X4_stepIn s m args below meth c H locs 0 0 Q (F0 m 10 ls []) := by
    intro  n
    induction n with
    | zero => intro x3 x4 v_X_plan_price v_X_plan_isStale a_X_plan_most a_X_plan_steps H locs ls hl hP hD hS hg; exact nomatch (show (none : Option (Int32 × Int32 × Int32 × (Nat → Int32) × (Nat → Int64))) = some o from hg)
    | succ n ih =>
      intro x3 x4 v_X_plan_price v_X_plan_isStale a_X_plan_most a_X_plan_steps H locs ls hl hP hD hS hg
      have hg : g_X4_stepIn_10b N_X_now_dues_cells v_X_now_dues_width v_X_now_dues_size a_X_now_dues_cells a_X_now_settings x1 x2 (g_X4_stepIn_10 N_X_now_dues_cells v_X_now_dues_width v_X_now_dues_size a_X_now_dues_cells a_X_now_settings x1 x2 n) x3 x4 v_X_plan_price v_X_plan_isStale a_X_plan_most a_X_plan_steps = some o := hg
      refine lv_iload hx hb dX4_stepIn_10 (lv_at hl 3 rfl) ?_
      refine lv_iload_n hx hb dX4_stepIn_12 rfl (lv_at hl 1 rfl) ?_
      refine lv_icmp_ge (tgt := 44) hx hb dX4_stepIn_13 (by decide) (fun h13 => ?_) (fun h13 => ?_)
      · have hg := zp hg h13
        exact B44 x3 v_X_plan_price v_X_plan_isStale a_X_plan_most a_X_plan_steps _ _ _ (lv_sub hl [0, 1, 2] rfl) hP hD hS hg
      · have hg := zn hg h13
        refine lv_iload hx hb dX4_stepIn_16 (lv_at hl 3 rfl) ?_
        refine lv_bipush (v := 99) hx hb dX4_stepIn_18 (by decide) ?_
        refine lv_icmp_ge (tgt := 44) hx hb dX4_stepIn_20 (by decide) (fun h20 => ?_) (fun h20 => ?_)
        · have hg := zp hg h20
          exact B44 x3 v_X_plan_price v_X_plan_isStale a_X_plan_most a_X_plan_steps _ _ _ (lv_sub hl [0, 1, 2] rfl) hP hD hS hg
        · have hg := zn hg h20
          refine lv_iload_n hx hb dX4_stepIn_23 rfl (lv_at hl 2 rfl) ?_
          refine lv_aload_n hx hb dX4_stepIn_24 rfl (lv_at hl 0 rfl) ?_
          refine lv_iload hx hb dX4_stepIn_25 (lv_at hl 3 rfl) ?_
          refine lv_iload_n hx hb dX4_stepIn_27 rfl (lv_at hl 2 rfl) ?_
          obtain ⟨v5, hc6, hg⟩ := zbd hg
          refine zcallV (rest := [.int x3]) S (c_X4_stepAt l D cI cJ cZ cA ga q_X_plan q_X_plan_steps (.ref q_X_now) (.ref q_X_plan_most) (.int v_X_plan_price) (.int v_X_plan_isStale) a_X_plan_steps x4 x3 v5 hc6) (zgV zw_829 zw_830 zw_831 zw_45 zw_832) rfl hd_X4_stepAt ⟨rfl, rfl⟩ ⟨Nat.le_of_ble_eq_true rfl, Nat.le_of_ble_eq_true rfl⟩ 0 4 rfl rfl rfl hl.1 rfl (Nat.le_of_ble_eq_true rfl) dX4_stepIn_28 hP hD hS hA hK hG (isC := [0, 2]) rfl (by decide +kernel) rfl ⟨Nat.zero_le _, Nat.zero_le _⟩ (pl := [some 0, none, some 1, none, none, none, none]) (nw := 7) rfl (by decide +kernel) (w2 := (ws_X4_stepIn cI cJ cZ cA q_X_plan q_X_plan_most q_X_plan_steps q_X_now q_X_now_dues q_X_now_dues_cells q_X_now_settings u_X_now_people u_X_now_talks u_X_now_sights u_X_now_rule u_X_now_stake u_X_now_dues_limit N_X_now_dues_cells v_X_plan_price v_X_plan_isStale a_X_plan_most a_X_plan_steps v_X_now_dues_width v_X_now_dues_size a_X_now_dues_cells a_X_now_settings)) rfl (st1 := [.int v5, .int x3]) rfl (fun H locs hP hD hS => ?_)
          refine lv_iadd hx hb dX4_stepIn_31 ?_
          refine lv_bipush (v := 99) hx hb dX4_stepIn_32 (by decide) ?_
          refine va_mmin hx hb (S.2.2.1.trans hl.1.symm) S.2.2.2.1 (ht _ zw_790) (ht _ zw_96) (ht _ zw_93) (ht _ zw_97) (Nat.le_of_ble_eq_true rfl) (Nat.le_of_ble_eq_true rfl) (Nat.zero_le _) (Nat.zero_le _) dX4_stepIn_34 ?_
          refine lv_istore_n (lv' := [(3, .int (if (99 : Int32) < (x3 + v5) then (99 : Int32) else (x3 + v5))), (0, .ref q_X_plan), (1, .int x1), (4, .int x4)]) hx hb dX4_stepIn_37 rfl hl (by decide) rfl (fun ls hl => ?_)
          refine lv_iinc (k := 3) (v := x4 + 1) (lv' := [(4, .int (x4 + 1)), (3, .int (if (99 : Int32) < (x3 + v5) then (99 : Int32) else (x3 + v5))), (0, .ref q_X_plan), (1, .int x1)]) hx hb dX4_stepIn_38 hl rfl (zinc (by decide)) (by decide) rfl (fun ls hl => ?_)
          refine lv_goto (tgt := 10) hx hb dX4_stepIn_41 (by decide) ?_
          exact ih (if (99 : Int32) < (x3 + v5) then (99 : Int32) else (x3 + v5)) (x4 + 1) v_X_plan_price v_X_plan_isStale a_X_plan_most a_X_plan_steps _ _ _ (lv_sub hl [2, 3, 1, 0] rfl) hP hD hS hg
  refine lv_aload_n hx hb dX4_stepIn_0 rfl (lv_at hl 0 rfl) ?_
  refine lv_iload_n hx hb dX4_stepIn_1 rfl (lv_at hl 2 rfl) ?_
  obtain ⟨v1, hc2, hg⟩ := zbd hg
  refine zcallV (rest := []) S (c_X4_refresh l D cI cJ cZ cA ga q_X_plan q_X_plan_most q_X_plan_steps q_X_now q_X_now_dues q_X_now_dues_cells q_X_now_settings u_X_now_people u_X_now_talks u_X_now_sights u_X_now_rule u_X_now_stake u_X_now_dues_limit N_X_now_dues_cells v_X_plan_price v_X_plan_isStale a_X_plan_most a_X_plan_steps v_X_now_dues_width v_X_now_dues_size a_X_now_dues_cells a_X_now_settings x2 v1 hc2) (zgV zw_784 zw_785 zw_786 zw_45 zw_787) rfl hd_X4_refresh ⟨rfl, rfl⟩ ⟨Nat.le_of_ble_eq_true rfl, Nat.le_of_ble_eq_true rfl⟩ 0 4 rfl rfl rfl hl.1 rfl (Nat.le_of_ble_eq_true rfl) dX4_stepIn_2 hP hD hS hA hK hG (isC := [0, 1, 2, 3, 4, 5, 6]) rfl (by decide +kernel) rfl ⟨Nat.zero_le _, Nat.zero_le _⟩ (pl := [some 0, some 1, some 2, some 3, some 4, some 5, some 6]) (nw := 7) rfl (by decide +kernel) (w2 := (ws_X4_stepIn cI cJ cZ cA q_X_plan q_X_plan_most q_X_plan_steps q_X_now q_X_now_dues q_X_now_dues_cells q_X_now_settings u_X_now_people u_X_now_talks u_X_now_sights u_X_now_rule u_X_now_stake u_X_now_dues_limit N_X_now_dues_cells v1.1 v1.2.1 v1.2.2.1 v1.2.2.2 v_X_now_dues_width v_X_now_dues_size a_X_now_dues_cells a_X_now_settings)) rfl (st1 := []) rfl (fun H locs hP hD hS => ?_)
  refine lv_iconst (v := 0) hx hb dX4_stepIn_5 (by decide) ?_
  refine lv_istore_n (lv' := [(3, .int 0), (0, .ref q_X_plan), (1, .int x1), (2, .int x2)]) hx hb dX4_stepIn_6 rfl hl (by decide) rfl (fun ls hl => ?_)
  refine lv_iconst (v := 0) hx hb dX4_stepIn_7 (by decide) ?_
  refine lv_istore (lv' := [(4, .int 0), (3, .int 0), (0, .ref q_X_plan), (1, .int x1), (2, .int x2)]) hx hb dX4_stepIn_8 hl (by decide) rfl (fun ls hl => ?_)
  exact B10 zF 0 0 v1.1 v1.2.1 v1.2.2.1 v1.2.2.2 _ _ _ (lv_sub hl [2, 3, 1, 0] rfl) hP hD hS hg

/-! SpokenClock.step(II)I -/
abbrev ws_X10_step (cI cJ cZ cA : ClassId) (q_X q_X_refusals q_X_plan q_X_plan_most q_X_plan_steps q_X_now q_X_now_dues q_X_now_dues_cells q_X_now_settings : Nat) (u_X_draft : Value) (u_X_text : Value) (u_X_reader : Value) (u_X_rule : Value) (u_X_day : Value) (u_X_guess : Value) (u_X_quarrel : Value) (u_X_fraction : Value) (u_X_firstImage : Value) (u_X_secondImage : Value) (u_X_kept : Value) (u_X_now_people : Value) (u_X_now_talks : Value) (u_X_now_sights : Value) (u_X_now_rule : Value) (u_X_now_stake : Value) (u_X_now_dues_limit : Value) (N_X_now_dues_cells : Nat) (a_X_refusals : Nat → Int32) (v_X_plan_price : Int32) (v_X_plan_isStale : Int32) (a_X_plan_most : Nat → Int32) (a_X_plan_steps : Nat → Int64) (v_X_now_dues_width : Int32) (v_X_now_dues_size : Int32) (a_X_now_dues_cells : Nat → Int32) (a_X_now_settings : Nat → Int32) : va_W := [(q_X, .inr (10, [.ref q_X_now, u_X_draft, u_X_text, u_X_reader, u_X_rule, u_X_day, .ref q_X_plan, u_X_guess, u_X_quarrel, u_X_fraction, u_X_firstImage, u_X_secondImage, u_X_kept, .ref q_X_refusals])), (q_X_refusals, .inl (cI, 3, .inl a_X_refusals)), (q_X_plan, .inr (4, [.ref q_X_now, .ref q_X_plan_most, .ref q_X_plan_steps, .int v_X_plan_price, .int v_X_plan_isStale])), (q_X_plan_most, .inl (cI, 100, .inl a_X_plan_most)), (q_X_plan_steps, .inl (cJ, 495, .inr (.inl a_X_plan_steps))), (q_X_now, .inr (9, [u_X_now_people, u_X_now_talks, .ref q_X_now_dues, u_X_now_sights, u_X_now_rule, .ref q_X_now_settings, u_X_now_stake])), (q_X_now_dues, .inr (7, [.int v_X_now_dues_width, u_X_now_dues_limit, .ref q_X_now_dues_cells, .int v_X_now_dues_size])), (q_X_now_dues_cells, .inl (cI, N_X_now_dues_cells, .inl a_X_now_dues_cells)), (q_X_now_settings, .inl (cI, 3, .inl a_X_now_settings))]
abbrev rm_X10_step : Room := { frames := 5, cells := 0, slots := 0, locals := 123 }
def g_X10_step_17 (N_X_now_dues_cells : Nat) (v_X_now_dues_width : Int32) (v_X_now_dues_size : Int32) (a_X_now_dues_cells : Nat → Int32) (a_X_now_settings : Nat → Int32) (x1 : Int32) (x2 : Int32) (a_X_refusals : Nat → Int32) (v_X_plan_price : Int32) (v_X_plan_isStale : Int32) (a_X_plan_most : Nat → Int32) (a_X_plan_steps : Nat → Int64) : Option (Int32 × (Nat → Int32) × Int32 × Int32 × (Nat → Int32) × (Nat → Int64)) :=
  (g_X10_refuse (-2) a_X_refusals).bind fun v3 =>
  some (v3.1, v3.2, v_X_plan_price, v_X_plan_isStale, a_X_plan_most, a_X_plan_steps)
def g_X10_step (N_X_now_dues_cells : Nat) (v_X_now_dues_width : Int32) (v_X_now_dues_size : Int32) (a_X_now_dues_cells : Nat → Int32) (a_X_now_settings : Nat → Int32) (x1 : Int32) (x2 : Int32) (a_X_refusals : Nat → Int32) (v_X_plan_price : Int32) (v_X_plan_isStale : Int32) (a_X_plan_most : Nat → Int32) (a_X_plan_steps : Nat → Int64) : Option (Int32 × (Nat → Int32) × Int32 × Int32 × (Nat → Int32) × (Nat → Int64)) :=
  (g_X10_isPrice x1).bind fun v1 =>
  if v1 = 0 then (
    g_X10_step_17 N_X_now_dues_cells v_X_now_dues_width v_X_now_dues_size a_X_now_dues_cells a_X_now_settings x1 x2 a_X_refusals v_X_plan_price v_X_plan_isStale a_X_plan_most a_X_plan_steps
  ) else (
    (g_X10_isIn x2 0 98).bind fun v5 =>
    if v5 = 0 then (
      g_X10_step_17 N_X_now_dues_cells v_X_now_dues_width v_X_now_dues_size a_X_now_dues_cells a_X_now_settings x1 x2 a_X_refusals v_X_plan_price v_X_plan_isStale a_X_plan_most a_X_plan_steps
    ) else (
      (g_X4_stepIn N_X_now_dues_cells v_X_now_dues_width v_X_now_dues_size a_X_now_dues_cells a_X_now_settings x2 x1 v_X_plan_price v_X_plan_isStale a_X_plan_most a_X_plan_steps).bind fun v7 =>
      some (v7.1, a_X_refusals, v7.2.1, v7.2.2.1, v7.2.2.2.1, v7.2.2.2.2)
    )
  )
theorem hd_X10_step : yX10_step.cls = RX10 ∧ yX10_step.cls ≠ "java/lang/invoke/MethodHandle" ∧ yX10_step.cls ≠ "java/lang/invoke/VarHandle" ∧ (parseMethodDescriptor yX10_step.desc).map (fun d => d.parameters.length) = some 2 := by decide +kernel
set_option maxHeartbeats 4000000 in
set_option maxRecDepth 100000 in
theorem c_X10_step (l : Launch) (D : va_G) (cI cJ cZ cA : ClassId) (ga : Nat → Nat) (q_X q_X_refusals q_X_plan q_X_plan_most q_X_plan_steps q_X_now q_X_now_dues q_X_now_dues_cells q_X_now_settings : Nat) (u_X_draft : Value) (u_X_text : Value) (u_X_reader : Value) (u_X_rule : Value) (u_X_day : Value) (u_X_guess : Value) (u_X_quarrel : Value) (u_X_fraction : Value) (u_X_firstImage : Value) (u_X_secondImage : Value) (u_X_kept : Value) (u_X_now_people : Value) (u_X_now_talks : Value) (u_X_now_sights : Value) (u_X_now_rule : Value) (u_X_now_stake : Value) (u_X_now_dues_limit : Value) (N_X_now_dues_cells : Nat) (a_X_refusals : Nat → Int32) (v_X_plan_price : Int32) (v_X_plan_isStale : Int32) (a_X_plan_most : Nat → Int32) (a_X_plan_steps : Nat → Int64) (v_X_now_dues_width : Int32) (v_X_now_dues_size : Int32) (a_X_now_dues_cells : Nat → Int32) (a_X_now_settings : Nat → Int32) (x1 : Int32) (x2 : Int32) (o : Int32 × (Nat → Int32) × Int32 × Int32 × (Nat → Int32) × (Nat → Int64)) (hg : g_X10_step N_X_now_dues_cells v_X_now_dues_width v_X_now_dues_size a_X_now_dues_cells a_X_now_settings x1 x2 a_X_refusals v_X_plan_price v_X_plan_isStale a_X_plan_most a_X_plan_steps = some o) : zM l yX10_step (Cond.code yX10_step cX10_step 3 (some .int) :: wsL_law) rm_X10_step D (zTy cI cJ cZ cA) ga [.ref q_X, .int x1, .int x2] (ws_X10_step cI cJ cZ cA q_X q_X_refusals q_X_plan q_X_plan_most q_X_plan_steps q_X_now q_X_now_dues q_X_now_dues_cells q_X_now_settings u_X_draft u_X_text u_X_reader u_X_rule u_X_day u_X_guess u_X_quarrel u_X_fraction u_X_firstImage u_X_secondImage u_X_kept u_X_now_people u_X_now_talks u_X_now_sights u_X_now_rule u_X_now_stake u_X_now_dues_limit N_X_now_dues_cells a_X_refusals v_X_plan_price v_X_plan_isStale a_X_plan_most a_X_plan_steps v_X_now_dues_width v_X_now_dues_size a_X_now_dues_cells a_X_now_settings) (ws_X10_step cI cJ cZ cA q_X q_X_refusals q_X_plan q_X_plan_most q_X_plan_steps q_X_now q_X_now_dues q_X_now_dues_cells q_X_now_settings u_X_draft u_X_text u_X_reader u_X_rule u_X_day u_X_guess u_X_quarrel u_X_fraction u_X_firstImage u_X_secondImage u_X_kept u_X_now_people u_X_now_talks u_X_now_sights u_X_now_rule u_X_now_stake u_X_now_dues_limit N_X_now_dues_cells o.2.1 o.2.2.1 o.2.2.2.1 o.2.2.2.2.1 o.2.2.2.2.2 v_X_now_dues_width v_X_now_dues_size a_X_now_dues_cells a_X_now_settings) (some (.int o.1)) := by
  refine zenterI (own := RX10) (by decide) rfl rfl (Nat.le_of_ble_eq_true rfl) ?_
  intro p e s m args below meth c A ls Q S hA hK hG hl hP hD hS hret0
  have hx := S.1
  have hb := S.2.1
  have ht : ∀ w, w ∈ wsL_law → w.before args s = true := fun w h => S.2.2.2.2 w (List.mem_cons_of_mem _ h)
  have hret : ∀ (r9 : Int32) (a_X_refusals : Nat → Int32) (v_X_plan_price : Int32) (v_X_plan_isStale : Int32) (a_X_plan_most : Nat → Int32) (a_X_plan_steps : Nat → Int64), (some (r9, a_X_refusals, v_X_plan_price, v_X_plan_isStale, a_X_plan_most, a_X_plan_steps) : Option (Int32 × (Nat → Int32) × Int32 × Int32 × (Nat → Int32) × (Nat → Int64))) = some o → ∀ (H : Heap) (locs : List Loc) (pc : Nat) (ls : Array Slot), va_P D vwCl (ws_X10_step cI cJ cZ cA q_X q_X_refusals q_X_plan q_X_plan_most q_X_plan_steps q_X_now q_X_now_dues q_X_now_dues_cells q_X_now_settings u_X_draft u_X_text u_X_reader u_X_rule u_X_day u_X_guess u_X_quarrel u_X_fraction u_X_firstImage u_X_secondImage u_X_kept u_X_now_people u_X_now_talks u_X_now_sights u_X_now_rule u_X_now_stake u_X_now_dues_limit N_X_now_dues_cells a_X_refusals v_X_plan_price v_X_plan_isStale a_X_plan_most a_X_plan_steps v_X_now_dues_width v_X_now_dues_size a_X_now_dues_cells a_X_now_settings) H → va_S A s.heap H locs → decode cX10_step pc = .ok (.ireturn, 1) → W p l e rm_X10_step s m args below meth c H locs 0 0 Q (F0 m pc ls [.int r9]) := by
    intro r9 a_X_refusals v_X_plan_price v_X_plan_isStale a_X_plan_most a_X_plan_steps he; cases he; exact hret0
  have hl : lv_has ls 3 [(0, .ref q_X), (1, .int x1), (2, .int x2)] := hl
  have B17 : ∀ (a_X_refusals : Nat → Int32) (v_X_plan_price : Int32) (v_X_plan_isStale : Int32) (a_X_plan_most : Nat → Int32) (a_X_plan_steps : Nat → Int64) (H : Heap) (locs : List Loc) (ls : Array Slot) (hl : lv_has ls 3 [(0, .ref q_X)]) (hP : va_P D vwCl (ws_X10_step cI cJ cZ cA q_X q_X_refusals q_X_plan q_X_plan_most q_X_plan_steps q_X_now q_X_now_dues q_X_now_dues_cells q_X_now_settings u_X_draft u_X_text u_X_reader u_X_rule u_X_day u_X_guess u_X_quarrel u_X_fraction u_X_firstImage u_X_secondImage u_X_kept u_X_now_people u_X_now_talks u_X_now_sights u_X_now_rule u_X_now_stake u_X_now_dues_limit N_X_now_dues_cells a_X_refusals v_X_plan_price v_X_plan_isStale a_X_plan_most a_X_plan_steps v_X_now_dues_width v_X_now_dues_size a_X_now_dues_cells a_X_now_settings) H) (hD : va_D A (ws_X10_step cI cJ cZ cA q_X q_X_refusals q_X_plan q_X_plan_most q_X_plan_steps q_X_now q_X_now_dues q_X_now_dues_cells q_X_now_settings u_X_draft u_X_text u_X_reader u_X_rule u_X_day u_X_guess u_X_quarrel u_X_fraction u_X_firstImage u_X_secondImage u_X_kept u_X_now_people u_X_now_talks u_X_now_sights u_X_now_rule u_X_now_stake u_X_now_dues_limit N_X_now_dues_cells a_X_refusals v_X_plan_price v_X_plan_isStale a_X_plan_most a_X_plan_steps v_X_now_dues_width v_X_now_dues_size a_X_now_dues_cells a_X_now_settings)) (hS : va_S A s.heap H locs), g_X10_step_17 N_X_now_dues_cells v_X_now_dues_width v_X_now_dues_size a_X_now_dues_cells a_X_now_settings x1 x2 a_X_refusals v_X_plan_price v_X_plan_isStale a_X_plan_most a_X_plan_steps = some o → W p l e rm_X10_step s m args below meth c H locs 0 0 Q (F0 m 17 ls []) := by
    intro  a_X_refusals v_X_plan_price v_X_plan_isStale a_X_plan_most a_X_plan_steps H locs ls hl hP hD hS hg
    refine lv_aload_n hx hb dX10_step_17 rfl (lv_at hl 0 rfl) ?_
    refine lv_bipush (v := (-2)) hx hb dX10_step_18 (by decide) ?_
    obtain ⟨v3, hc4, hg⟩ := zbd hg
    refine zcallV (rest := []) S (c_X10_refuse l D cI cJ cZ cA ga q_X q_X_refusals (.ref q_X_now) u_X_draft u_X_text u_X_reader u_X_rule u_X_day (.ref q_X_plan) u_X_guess u_X_quarrel u_X_fraction u_X_firstImage u_X_secondImage u_X_kept a_X_refusals (-2) v3 hc4) (zgV zw_184 zw_185 zw_186 zw_2 zw_187) rfl hd_X10_refuse ⟨rfl, rfl⟩ ⟨Nat.le_of_ble_eq_true rfl, Nat.le_of_ble_eq_true rfl⟩ 0 10 rfl rfl rfl hl.1 rfl (Nat.le_of_ble_eq_true rfl) dX10_step_20 hP hD hS hA hK hG (isC := [0, 1]) rfl (by decide +kernel) rfl ⟨Nat.zero_le _, Nat.zero_le _⟩ (pl := [some 0, some 1, none, none, none, none, none, none, none]) (nw := 9) rfl (by decide +kernel) (w2 := (ws_X10_step cI cJ cZ cA q_X q_X_refusals q_X_plan q_X_plan_most q_X_plan_steps q_X_now q_X_now_dues q_X_now_dues_cells q_X_now_settings u_X_draft u_X_text u_X_reader u_X_rule u_X_day u_X_guess u_X_quarrel u_X_fraction u_X_firstImage u_X_secondImage u_X_kept u_X_now_people u_X_now_talks u_X_now_sights u_X_now_rule u_X_now_stake u_X_now_dues_limit N_X_now_dues_cells v3.2 v_X_plan_price v_X_plan_isStale a_X_plan_most a_X_plan_steps v_X_now_dues_width v_X_now_dues_size a_X_now_dues_cells a_X_now_settings)) rfl (st1 := [.int v3.1]) rfl (fun H locs hP hD hS => ?_)
    exact hret v3.1 v3.2 v_X_plan_price v_X_plan_isStale a_X_plan_most a_X_plan_steps hg _ _ _ _ hP hS dX10_step_23
  refine lv_iload_n hx hb dX10_step_0 rfl (lv_at hl 1 rfl) ?_
  obtain ⟨v1, hc2, hg⟩ := zbd hg
  refine zcallS (rest := []) S (c_X10_isPrice l D cI cJ cZ cA ga x1 v1 hc2) (zgS zw_777 zw_778 zw_2 zw_779) rfl hd_X10_isPrice ⟨rfl, rfl⟩ ⟨Nat.le_of_ble_eq_true rfl, Nat.le_of_ble_eq_true rfl⟩ rfl hl.1 rfl (Nat.le_of_ble_eq_true rfl) dX10_step_1 hP hD hS hA hK hG (isC := []) rfl (by decide +kernel) rfl ⟨Nat.zero_le _, Nat.zero_le _⟩ (pl := [none, none, none, none, none, none, none, none, none]) (nw := 9) rfl (by decide +kernel) (w2 := (ws_X10_step cI cJ cZ cA q_X q_X_refusals q_X_plan q_X_plan_most q_X_plan_steps q_X_now q_X_now_dues q_X_now_dues_cells q_X_now_settings u_X_draft u_X_text u_X_reader u_X_rule u_X_day u_X_guess u_X_quarrel u_X_fraction u_X_firstImage u_X_secondImage u_X_kept u_X_now_people u_X_now_talks u_X_now_sights u_X_now_rule u_X_now_stake u_X_now_dues_limit N_X_now_dues_cells a_X_refusals v_X_plan_price v_X_plan_isStale a_X_plan_most a_X_plan_steps v_X_now_dues_width v_X_now_dues_size a_X_now_dues_cells a_X_now_settings)) rfl (st1 := [.int v1]) rfl (fun H locs hP hD hS => ?_)
  refine lv_if_eq (tgt := 17) hx hb dX10_step_4 (by decide) (fun h4 => ?_) (fun h4 => ?_)
  · have hg := zp hg h4
    exact B17 a_X_refusals v_X_plan_price v_X_plan_isStale a_X_plan_most a_X_plan_steps _ _ _ (lv_sub hl [0] rfl) hP hD hS hg
  · have hg := zn hg h4
    refine lv_iload_n hx hb dX10_step_7 rfl (lv_at hl 2 rfl) ?_
    refine lv_iconst (v := 0) hx hb dX10_step_8 (by decide) ?_
    refine lv_bipush (v := 98) hx hb dX10_step_9 (by decide) ?_
    obtain ⟨v5, hc6, hg⟩ := zbd hg
    refine zcallS (rest := []) S (c_X10_isIn l D cI cJ cZ cA ga x2 0 98 v5 hc6) (zgS zw_188 zw_189 zw_2 zw_190) rfl hd_X10_isIn ⟨rfl, rfl⟩ ⟨Nat.le_of_ble_eq_true rfl, Nat.le_of_ble_eq_true rfl⟩ rfl hl.1 rfl (Nat.le_of_ble_eq_true rfl) dX10_step_11 hP hD hS hA hK hG (isC := []) rfl (by decide +kernel) rfl ⟨Nat.zero_le _, Nat.zero_le _⟩ (pl := [none, none, none, none, none, none, none, none, none]) (nw := 9) rfl (by decide +kernel) (w2 := (ws_X10_step cI cJ cZ cA q_X q_X_refusals q_X_plan q_X_plan_most q_X_plan_steps q_X_now q_X_now_dues q_X_now_dues_cells q_X_now_settings u_X_draft u_X_text u_X_reader u_X_rule u_X_day u_X_guess u_X_quarrel u_X_fraction u_X_firstImage u_X_secondImage u_X_kept u_X_now_people u_X_now_talks u_X_now_sights u_X_now_rule u_X_now_stake u_X_now_dues_limit N_X_now_dues_cells a_X_refusals v_X_plan_price v_X_plan_isStale a_X_plan_most a_X_plan_steps v_X_now_dues_width v_X_now_dues_size a_X_now_dues_cells a_X_now_settings)) rfl (st1 := [.int v5]) rfl (fun H locs hP hD hS => ?_)
    refine lv_if_ne (tgt := 24) hx hb dX10_step_14 (by decide) (fun h14 => ?_) (fun h14 => ?_)
    · have hg := zn hg h14
      refine lv_aload_n hx hb dX10_step_24 rfl (lv_at hl 0 rfl) ?_
      refine zget (C := RX10) (T := TX10) (N := 14) S hK hP 0 rfl rfl 6 (Nat.le_of_ble_eq_true rfl) zf_10 zw_46 rfl dX10_step_25 ?_
      refine lv_iload_n hx hb dX10_step_28 rfl (lv_at hl 2 rfl) ?_
      refine lv_iload_n hx hb dX10_step_29 rfl (lv_at hl 1 rfl) ?_
      obtain ⟨v7, hc8, hg⟩ := zbd hg
      refine zcallV (rest := []) S (c_X4_stepIn l D cI cJ cZ cA ga q_X_plan q_X_plan_most q_X_plan_steps q_X_now q_X_now_dues q_X_now_dues_cells q_X_now_settings u_X_now_people u_X_now_talks u_X_now_sights u_X_now_rule u_X_now_stake u_X_now_dues_limit N_X_now_dues_cells v_X_plan_price v_X_plan_isStale a_X_plan_most a_X_plan_steps v_X_now_dues_width v_X_now_dues_size a_X_now_dues_cells a_X_now_settings x2 x1 v7 hc8) (zgV zw_825 zw_826 zw_827 zw_45 zw_828) rfl hd_X4_stepIn ⟨rfl, rfl⟩ ⟨Nat.le_of_ble_eq_true rfl, Nat.le_of_ble_eq_true rfl⟩ 2 4 rfl rfl rfl hl.1 rfl (Nat.le_of_ble_eq_true rfl) dX10_step_30 hP hD hS hA hK hG (isC := [2, 3, 4, 5, 6, 7, 8]) rfl (by decide +kernel) rfl ⟨Nat.zero_le _, Nat.zero_le _⟩ (pl := [none, none, some 0, some 1, some 2, some 3, some 4, some 5, some 6]) (nw := 9) rfl (by decide +kernel) (w2 := (ws_X10_step cI cJ cZ cA q_X q_X_refusals q_X_plan q_X_plan_most q_X_plan_steps q_X_now q_X_now_dues q_X_now_dues_cells q_X_now_settings u_X_draft u_X_text u_X_reader u_X_rule u_X_day u_X_guess u_X_quarrel u_X_fraction u_X_firstImage u_X_secondImage u_X_kept u_X_now_people u_X_now_talks u_X_now_sights u_X_now_rule u_X_now_stake u_X_now_dues_limit N_X_now_dues_cells a_X_refusals v7.2.1 v7.2.2.1 v7.2.2.2.1 v7.2.2.2.2 v_X_now_dues_width v_X_now_dues_size a_X_now_dues_cells a_X_now_settings)) rfl (st1 := [.int v7.1]) rfl (fun H locs hP hD hS => ?_)
      exact hret v7.1 a_X_refusals v7.2.1 v7.2.2.1 v7.2.2.2.1 v7.2.2.2.2 hg _ _ _ _ hP hS dX10_step_33
    · have hg := zp hg h14
      exact B17 a_X_refusals v_X_plan_price v_X_plan_isStale a_X_plan_most a_X_plan_steps _ _ _ (lv_sub hl [0] rfl) hP hD hS hg

/-! SpokenClock.minute(I)I -/
abbrev ws_X10_minute (cI cJ cZ cA : ClassId) (q_X q_X_plan q_X_plan_most q_X_plan_steps q_X_now q_X_now_dues q_X_now_dues_cells q_X_now_settings q_X_refusals : Nat) (u_X_draft : Value) (u_X_text : Value) (u_X_reader : Value) (u_X_rule : Value) (u_X_day : Value) (u_X_guess : Value) (u_X_quarrel : Value) (u_X_fraction : Value) (u_X_firstImage : Value) (u_X_secondImage : Value) (u_X_kept : Value) (u_X_now_people : Value) (u_X_now_talks : Value) (u_X_now_sights : Value) (u_X_now_rule : Value) (u_X_now_stake : Value) (u_X_now_dues_limit : Value) (N_X_now_dues_cells : Nat) (v_X_plan_price : Int32) (v_X_plan_isStale : Int32) (a_X_plan_most : Nat → Int32) (a_X_plan_steps : Nat → Int64) (v_X_now_dues_width : Int32) (v_X_now_dues_size : Int32) (a_X_now_dues_cells : Nat → Int32) (a_X_now_settings : Nat → Int32) (a_X_refusals : Nat → Int32) : va_W := [(q_X, .inr (10, [.ref q_X_now, u_X_draft, u_X_text, u_X_reader, u_X_rule, u_X_day, .ref q_X_plan, u_X_guess, u_X_quarrel, u_X_fraction, u_X_firstImage, u_X_secondImage, u_X_kept, .ref q_X_refusals])), (q_X_plan, .inr (4, [.ref q_X_now, .ref q_X_plan_most, .ref q_X_plan_steps, .int v_X_plan_price, .int v_X_plan_isStale])), (q_X_plan_most, .inl (cI, 100, .inl a_X_plan_most)), (q_X_plan_steps, .inl (cJ, 495, .inr (.inl a_X_plan_steps))), (q_X_now, .inr (9, [u_X_now_people, u_X_now_talks, .ref q_X_now_dues, u_X_now_sights, u_X_now_rule, .ref q_X_now_settings, u_X_now_stake])), (q_X_now_dues, .inr (7, [.int v_X_now_dues_width, u_X_now_dues_limit, .ref q_X_now_dues_cells, .int v_X_now_dues_size])), (q_X_now_dues_cells, .inl (cI, N_X_now_dues_cells, .inl a_X_now_dues_cells)), (q_X_now_settings, .inl (cI, 3, .inl a_X_now_settings)), (q_X_refusals, .inl (cI, 3, .inl a_X_refusals))]
abbrev rm_X10_minute : Room := { frames := 5, cells := 0, slots := 0, locals := 121 }
def g_X10_minute (N_X_now_dues_cells : Nat) (v_X_now_dues_width : Int32) (v_X_now_dues_size : Int32) (a_X_now_dues_cells : Nat → Int32) (a_X_now_settings : Nat → Int32) (x1 : Int32) (v_X_plan_price : Int32) (v_X_plan_isStale : Int32) (a_X_plan_most : Nat → Int32) (a_X_plan_steps : Nat → Int64) (a_X_refusals : Nat → Int32) : Option (Int32 × Int32 × Int32 × (Nat → Int32) × (Nat → Int64) × (Nat → Int32)) :=
  (g_X10_isPrice x1).bind fun v1 =>
  if v1 = 0 then (
    (g_X10_refuseWorth a_X_refusals).bind fun v7 =>
    some (v7.1, v_X_plan_price, v_X_plan_isStale, a_X_plan_most, a_X_plan_steps, v7.2)
  ) else (
    (g_X4_mostFrom N_X_now_dues_cells v_X_now_dues_width v_X_now_dues_size a_X_now_dues_cells a_X_now_settings 1 x1 v_X_plan_price v_X_plan_isStale a_X_plan_most a_X_plan_steps).bind fun v3 =>
    (g_X4_mostFrom N_X_now_dues_cells v_X_now_dues_width v_X_now_dues_size a_X_now_dues_cells a_X_now_settings 0 x1 v3.2.1 v3.2.2.1 v3.2.2.2.1 v3.2.2.2.2).bind fun v5 =>
    some (v3.1 - v5.1, v5.2.1, v5.2.2.1, v5.2.2.2.1, v5.2.2.2.2, a_X_refusals)
  )
theorem hd_X10_minute : yX10_minute.cls = RX10 ∧ yX10_minute.cls ≠ "java/lang/invoke/MethodHandle" ∧ yX10_minute.cls ≠ "java/lang/invoke/VarHandle" ∧ (parseMethodDescriptor yX10_minute.desc).map (fun d => d.parameters.length) = some 1 := by decide +kernel
set_option maxHeartbeats 4000000 in
set_option maxRecDepth 100000 in
theorem c_X10_minute (l : Launch) (D : va_G) (cI cJ cZ cA : ClassId) (ga : Nat → Nat) (q_X q_X_plan q_X_plan_most q_X_plan_steps q_X_now q_X_now_dues q_X_now_dues_cells q_X_now_settings q_X_refusals : Nat) (u_X_draft : Value) (u_X_text : Value) (u_X_reader : Value) (u_X_rule : Value) (u_X_day : Value) (u_X_guess : Value) (u_X_quarrel : Value) (u_X_fraction : Value) (u_X_firstImage : Value) (u_X_secondImage : Value) (u_X_kept : Value) (u_X_now_people : Value) (u_X_now_talks : Value) (u_X_now_sights : Value) (u_X_now_rule : Value) (u_X_now_stake : Value) (u_X_now_dues_limit : Value) (N_X_now_dues_cells : Nat) (v_X_plan_price : Int32) (v_X_plan_isStale : Int32) (a_X_plan_most : Nat → Int32) (a_X_plan_steps : Nat → Int64) (v_X_now_dues_width : Int32) (v_X_now_dues_size : Int32) (a_X_now_dues_cells : Nat → Int32) (a_X_now_settings : Nat → Int32) (a_X_refusals : Nat → Int32) (x1 : Int32) (o : Int32 × Int32 × Int32 × (Nat → Int32) × (Nat → Int64) × (Nat → Int32)) (hg : g_X10_minute N_X_now_dues_cells v_X_now_dues_width v_X_now_dues_size a_X_now_dues_cells a_X_now_settings x1 v_X_plan_price v_X_plan_isStale a_X_plan_most a_X_plan_steps a_X_refusals = some o) : zM l yX10_minute (Cond.code yX10_minute cX10_minute 2 (some .int) :: wsL_law) rm_X10_minute D (zTy cI cJ cZ cA) ga [.ref q_X, .int x1] (ws_X10_minute cI cJ cZ cA q_X q_X_plan q_X_plan_most q_X_plan_steps q_X_now q_X_now_dues q_X_now_dues_cells q_X_now_settings q_X_refusals u_X_draft u_X_text u_X_reader u_X_rule u_X_day u_X_guess u_X_quarrel u_X_fraction u_X_firstImage u_X_secondImage u_X_kept u_X_now_people u_X_now_talks u_X_now_sights u_X_now_rule u_X_now_stake u_X_now_dues_limit N_X_now_dues_cells v_X_plan_price v_X_plan_isStale a_X_plan_most a_X_plan_steps v_X_now_dues_width v_X_now_dues_size a_X_now_dues_cells a_X_now_settings a_X_refusals) (ws_X10_minute cI cJ cZ cA q_X q_X_plan q_X_plan_most q_X_plan_steps q_X_now q_X_now_dues q_X_now_dues_cells q_X_now_settings q_X_refusals u_X_draft u_X_text u_X_reader u_X_rule u_X_day u_X_guess u_X_quarrel u_X_fraction u_X_firstImage u_X_secondImage u_X_kept u_X_now_people u_X_now_talks u_X_now_sights u_X_now_rule u_X_now_stake u_X_now_dues_limit N_X_now_dues_cells o.2.1 o.2.2.1 o.2.2.2.1 o.2.2.2.2.1 v_X_now_dues_width v_X_now_dues_size a_X_now_dues_cells a_X_now_settings o.2.2.2.2.2) (some (.int o.1)) := by
  refine zenterI (own := RX10) (by decide) rfl rfl (Nat.le_of_ble_eq_true rfl) ?_
  intro p e s m args below meth c A ls Q S hA hK hG hl hP hD hS hret0
  have hx := S.1
  have hb := S.2.1
  have ht : ∀ w, w ∈ wsL_law → w.before args s = true := fun w h => S.2.2.2.2 w (List.mem_cons_of_mem _ h)
  have hret : ∀ (r9 : Int32) (v_X_plan_price : Int32) (v_X_plan_isStale : Int32) (a_X_plan_most : Nat → Int32) (a_X_plan_steps : Nat → Int64) (a_X_refusals : Nat → Int32), (some (r9, v_X_plan_price, v_X_plan_isStale, a_X_plan_most, a_X_plan_steps, a_X_refusals) : Option (Int32 × Int32 × Int32 × (Nat → Int32) × (Nat → Int64) × (Nat → Int32))) = some o → ∀ (H : Heap) (locs : List Loc) (pc : Nat) (ls : Array Slot), va_P D vwCl (ws_X10_minute cI cJ cZ cA q_X q_X_plan q_X_plan_most q_X_plan_steps q_X_now q_X_now_dues q_X_now_dues_cells q_X_now_settings q_X_refusals u_X_draft u_X_text u_X_reader u_X_rule u_X_day u_X_guess u_X_quarrel u_X_fraction u_X_firstImage u_X_secondImage u_X_kept u_X_now_people u_X_now_talks u_X_now_sights u_X_now_rule u_X_now_stake u_X_now_dues_limit N_X_now_dues_cells v_X_plan_price v_X_plan_isStale a_X_plan_most a_X_plan_steps v_X_now_dues_width v_X_now_dues_size a_X_now_dues_cells a_X_now_settings a_X_refusals) H → va_S A s.heap H locs → decode cX10_minute pc = .ok (.ireturn, 1) → W p l e rm_X10_minute s m args below meth c H locs 0 0 Q (F0 m pc ls [.int r9]) := by
    intro r9 v_X_plan_price v_X_plan_isStale a_X_plan_most a_X_plan_steps a_X_refusals he; cases he; exact hret0
  have hl : lv_has ls 2 [(0, .ref q_X), (1, .int x1)] := hl
  refine lv_iload_n hx hb dX10_minute_0 rfl (lv_at hl 1 rfl) ?_
  obtain ⟨v1, hc2, hg⟩ := zbd hg
  refine zcallS (rest := []) S (c_X10_isPrice l D cI cJ cZ cA ga x1 v1 hc2) (zgS zw_777 zw_778 zw_2 zw_779) rfl hd_X10_isPrice ⟨rfl, rfl⟩ ⟨Nat.le_of_ble_eq_true rfl, Nat.le_of_ble_eq_true rfl⟩ rfl hl.1 rfl (Nat.le_of_ble_eq_true rfl) dX10_minute_1 hP hD hS hA hK hG (isC := []) rfl (by decide +kernel) rfl ⟨Nat.zero_le _, Nat.zero_le _⟩ (pl := [none, none, none, none, none, none, none, none, none]) (nw := 9) rfl (by decide +kernel) (w2 := (ws_X10_minute cI cJ cZ cA q_X q_X_plan q_X_plan_most q_X_plan_steps q_X_now q_X_now_dues q_X_now_dues_cells q_X_now_settings q_X_refusals u_X_draft u_X_text u_X_reader u_X_rule u_X_day u_X_guess u_X_quarrel u_X_fraction u_X_firstImage u_X_secondImage u_X_kept u_X_now_people u_X_now_talks u_X_now_sights u_X_now_rule u_X_now_stake u_X_now_dues_limit N_X_now_dues_cells v_X_plan_price v_X_plan_isStale a_X_plan_most a_X_plan_steps v_X_now_dues_width v_X_now_dues_size a_X_now_dues_cells a_X_now_settings a_X_refusals)) rfl (st1 := [.int v1]) rfl (fun H locs hP hD hS => ?_)
  refine lv_if_ne (tgt := 12) hx hb dX10_minute_4 (by decide) (fun h4 => ?_) (fun h4 => ?_)
  · have hg := zn hg h4
    refine lv_aload_n hx hb dX10_minute_12 rfl (lv_at hl 0 rfl) ?_
    refine zget (C := RX10) (T := TX10) (N := 14) S hK hP 0 rfl rfl 6 (Nat.le_of_ble_eq_true rfl) zf_10 zw_46 rfl dX10_minute_13 ?_
    refine lv_iconst (v := 1) hx hb dX10_minute_16 (by decide) ?_
    refine lv_iload_n hx hb dX10_minute_17 rfl (lv_at hl 1 rfl) ?_
    obtain ⟨v3, hc4, hg⟩ := zbd hg
    refine zcallV (rest := []) S (c_X4_mostFrom l D cI cJ cZ cA ga q_X_plan q_X_plan_most q_X_plan_steps q_X_now q_X_now_dues q_X_now_dues_cells q_X_now_settings u_X_now_people u_X_now_talks u_X_now_sights u_X_now_rule u_X_now_stake u_X_now_dues_limit N_X_now_dues_cells v_X_plan_price v_X_plan_isStale a_X_plan_most a_X_plan_steps v_X_now_dues_width v_X_now_dues_size a_X_now_dues_cells a_X_now_settings 1 x1 v3 hc4) (zgV zw_780 zw_781 zw_782 zw_45 zw_783) rfl hd_X4_mostFrom ⟨rfl, rfl⟩ ⟨Nat.le_of_ble_eq_true rfl, Nat.le_of_ble_eq_true rfl⟩ 1 4 rfl rfl rfl hl.1 rfl (Nat.le_of_ble_eq_true rfl) dX10_minute_18 hP hD hS hA hK hG (isC := [1, 2, 3, 4, 5, 6, 7]) rfl (by decide +kernel) rfl ⟨Nat.zero_le _, Nat.zero_le _⟩ (pl := [none, some 0, some 1, some 2, some 3, some 4, some 5, some 6, none]) (nw := 9) rfl (by decide +kernel) (w2 := (ws_X10_minute cI cJ cZ cA q_X q_X_plan q_X_plan_most q_X_plan_steps q_X_now q_X_now_dues q_X_now_dues_cells q_X_now_settings q_X_refusals u_X_draft u_X_text u_X_reader u_X_rule u_X_day u_X_guess u_X_quarrel u_X_fraction u_X_firstImage u_X_secondImage u_X_kept u_X_now_people u_X_now_talks u_X_now_sights u_X_now_rule u_X_now_stake u_X_now_dues_limit N_X_now_dues_cells v3.2.1 v3.2.2.1 v3.2.2.2.1 v3.2.2.2.2 v_X_now_dues_width v_X_now_dues_size a_X_now_dues_cells a_X_now_settings a_X_refusals)) rfl (st1 := [.int v3.1]) rfl (fun H locs hP hD hS => ?_)
    refine lv_aload_n hx hb dX10_minute_21 rfl (lv_at hl 0 rfl) ?_
    refine zget (C := RX10) (T := TX10) (N := 14) S hK hP 0 rfl rfl 6 (Nat.le_of_ble_eq_true rfl) zf_10 zw_46 rfl dX10_minute_22 ?_
    refine lv_iconst (v := 0) hx hb dX10_minute_25 (by decide) ?_
    refine lv_iload_n hx hb dX10_minute_26 rfl (lv_at hl 1 rfl) ?_
    obtain ⟨v5, hc6, hg⟩ := zbd hg
    refine zcallV (rest := [.int v3.1]) S (c_X4_mostFrom l D cI cJ cZ cA ga q_X_plan q_X_plan_most q_X_plan_steps q_X_now q_X_now_dues q_X_now_dues_cells q_X_now_settings u_X_now_people u_X_now_talks u_X_now_sights u_X_now_rule u_X_now_stake u_X_now_dues_limit N_X_now_dues_cells v3.2.1 v3.2.2.1 v3.2.2.2.1 v3.2.2.2.2 v_X_now_dues_width v_X_now_dues_size a_X_now_dues_cells a_X_now_settings 0 x1 v5 hc6) (zgV zw_780 zw_781 zw_782 zw_45 zw_783) rfl hd_X4_mostFrom ⟨rfl, rfl⟩ ⟨Nat.le_of_ble_eq_true rfl, Nat.le_of_ble_eq_true rfl⟩ 1 4 rfl rfl rfl hl.1 rfl (Nat.le_of_ble_eq_true rfl) dX10_minute_27 hP hD hS hA hK hG (isC := [1, 2, 3, 4, 5, 6, 7]) rfl (by decide +kernel) rfl ⟨Nat.zero_le _, Nat.zero_le _⟩ (pl := [none, some 0, some 1, some 2, some 3, some 4, some 5, some 6, none]) (nw := 9) rfl (by decide +kernel) (w2 := (ws_X10_minute cI cJ cZ cA q_X q_X_plan q_X_plan_most q_X_plan_steps q_X_now q_X_now_dues q_X_now_dues_cells q_X_now_settings q_X_refusals u_X_draft u_X_text u_X_reader u_X_rule u_X_day u_X_guess u_X_quarrel u_X_fraction u_X_firstImage u_X_secondImage u_X_kept u_X_now_people u_X_now_talks u_X_now_sights u_X_now_rule u_X_now_stake u_X_now_dues_limit N_X_now_dues_cells v5.2.1 v5.2.2.1 v5.2.2.2.1 v5.2.2.2.2 v_X_now_dues_width v_X_now_dues_size a_X_now_dues_cells a_X_now_settings a_X_refusals)) rfl (st1 := [.int v5.1, .int v3.1]) rfl (fun H locs hP hD hS => ?_)
    refine lv_isub hx hb dX10_minute_30 ?_
    exact hret (v3.1 - v5.1) v5.2.1 v5.2.2.1 v5.2.2.2.1 v5.2.2.2.2 a_X_refusals hg _ _ _ _ hP hS dX10_minute_31
  · have hg := zp hg h4
    refine lv_aload_n hx hb dX10_minute_7 rfl (lv_at hl 0 rfl) ?_
    obtain ⟨v7, hc8, hg⟩ := zbd hg
    refine zcallV (rest := []) S (c_X10_refuseWorth l D cI cJ cZ cA ga q_X q_X_refusals (.ref q_X_now) u_X_draft u_X_text u_X_reader u_X_rule u_X_day (.ref q_X_plan) u_X_guess u_X_quarrel u_X_fraction u_X_firstImage u_X_secondImage u_X_kept a_X_refusals v7 hc8) (zgV zw_756 zw_757 zw_758 zw_2 zw_759) rfl hd_X10_refuseWorth ⟨rfl, rfl⟩ ⟨Nat.le_of_ble_eq_true rfl, Nat.le_of_ble_eq_true rfl⟩ 0 10 rfl rfl rfl hl.1 rfl (Nat.le_of_ble_eq_true rfl) dX10_minute_8 hP hD hS hA hK hG (isC := [0, 8]) rfl (by decide +kernel) rfl ⟨Nat.zero_le _, Nat.zero_le _⟩ (pl := [some 0, none, none, none, none, none, none, none, some 1]) (nw := 9) rfl (by decide +kernel) (w2 := (ws_X10_minute cI cJ cZ cA q_X q_X_plan q_X_plan_most q_X_plan_steps q_X_now q_X_now_dues q_X_now_dues_cells q_X_now_settings q_X_refusals u_X_draft u_X_text u_X_reader u_X_rule u_X_day u_X_guess u_X_quarrel u_X_fraction u_X_firstImage u_X_secondImage u_X_kept u_X_now_people u_X_now_talks u_X_now_sights u_X_now_rule u_X_now_stake u_X_now_dues_limit N_X_now_dues_cells v_X_plan_price v_X_plan_isStale a_X_plan_most a_X_plan_steps v_X_now_dues_width v_X_now_dues_size a_X_now_dues_cells a_X_now_settings v7.2)) rfl (st1 := [.int v7.1]) rfl (fun H locs hP hD hS => ?_)
    exact hret v7.1 v_X_plan_price v_X_plan_isStale a_X_plan_most a_X_plan_steps v7.2 hg _ _ _ _ hP hS dX10_minute_11

/-! SpokenClock.stake(IIIII)I -/
abbrev ws_X10_stake (cI cJ cZ cA : ClassId) (q_X q_X_refusals q_X_now q_X_now_stake : Nat) (u_X_draft : Value) (u_X_text : Value) (u_X_reader : Value) (u_X_rule : Value) (u_X_day : Value) (u_X_plan : Value) (u_X_guess : Value) (u_X_quarrel : Value) (u_X_fraction : Value) (u_X_firstImage : Value) (u_X_secondImage : Value) (u_X_kept : Value) (u_X_now_people : Value) (u_X_now_talks : Value) (u_X_now_dues : Value) (u_X_now_sights : Value) (u_X_now_rule : Value) (u_X_now_settings : Value) (a_X_refusals : Nat → Int32) (a_X_now_stake : Nat → Int32) : va_W := [(q_X, .inr (10, [.ref q_X_now, u_X_draft, u_X_text, u_X_reader, u_X_rule, u_X_day, u_X_plan, u_X_guess, u_X_quarrel, u_X_fraction, u_X_firstImage, u_X_secondImage, u_X_kept, .ref q_X_refusals])), (q_X_refusals, .inl (cI, 3, .inl a_X_refusals)), (q_X_now, .inr (9, [u_X_now_people, u_X_now_talks, u_X_now_dues, u_X_now_sights, u_X_now_rule, u_X_now_settings, .ref q_X_now_stake])), (q_X_now_stake, .inl (cI, 5, .inl a_X_now_stake))]
abbrev rm_X10_stake : Room := { frames := 2, cells := 0, slots := 0, locals := 44 }
def g_X10_stake_54 (x1 : Int32) (x2 : Int32) (x3 : Int32) (x4 : Int32) (x5 : Int32) (a_X_refusals : Nat → Int32) (a_X_now_stake : Nat → Int32) : Option (Int32 × (Nat → Int32) × (Nat → Int32)) :=
  (g_X10_refuse (-2) a_X_refusals).bind fun v3 =>
  some (v3.1, v3.2, a_X_now_stake)
def g_X10_stake (x1 : Int32) (x2 : Int32) (x3 : Int32) (x4 : Int32) (x5 : Int32) (a_X_refusals : Nat → Int32) (a_X_now_stake : Nat → Int32) : Option (Int32 × (Nat → Int32) × (Nat → Int32)) :=
  (g_X10_isIn x1 0 20).bind fun v1 =>
  if v1 = 0 then (
    g_X10_stake_54 x1 x2 x3 x4 x5 a_X_refusals a_X_now_stake
  ) else (
    (g_X10_isIn x2 0 20).bind fun v5 =>
    if v5 = 0 then (
      g_X10_stake_54 x1 x2 x3 x4 x5 a_X_refusals a_X_now_stake
    ) else (
      (g_X10_isIn x3 (-99) 99).bind fun v7 =>
      if v7 = 0 then (
        g_X10_stake_54 x1 x2 x3 x4 x5 a_X_refusals a_X_now_stake
      ) else (
        (g_X10_isIn x4 (-99) 99).bind fun v9 =>
        if v9 = 0 then (
          g_X10_stake_54 x1 x2 x3 x4 x5 a_X_refusals a_X_now_stake
        ) else (
          (g_X10_isIn x5 0 99).bind fun v11 =>
          if v11 = 0 then (
            g_X10_stake_54 x1 x2 x3 x4 x5 a_X_refusals a_X_now_stake
          ) else (
            some (1, a_X_refusals, upd (upd (upd (upd (upd a_X_now_stake 0 x1) 1 x2) 2 x3) 3 x4) 4 x5)
          )
        )
      )
    )
  )
theorem hd_X10_stake : yX10_stake.cls = RX10 ∧ yX10_stake.cls ≠ "java/lang/invoke/MethodHandle" ∧ yX10_stake.cls ≠ "java/lang/invoke/VarHandle" ∧ (parseMethodDescriptor yX10_stake.desc).map (fun d => d.parameters.length) = some 5 := by decide +kernel
set_option maxHeartbeats 4000000 in
set_option maxRecDepth 100000 in
theorem c_X10_stake (l : Launch) (D : va_G) (cI cJ cZ cA : ClassId) (ga : Nat → Nat) (q_X q_X_refusals q_X_now q_X_now_stake : Nat) (u_X_draft : Value) (u_X_text : Value) (u_X_reader : Value) (u_X_rule : Value) (u_X_day : Value) (u_X_plan : Value) (u_X_guess : Value) (u_X_quarrel : Value) (u_X_fraction : Value) (u_X_firstImage : Value) (u_X_secondImage : Value) (u_X_kept : Value) (u_X_now_people : Value) (u_X_now_talks : Value) (u_X_now_dues : Value) (u_X_now_sights : Value) (u_X_now_rule : Value) (u_X_now_settings : Value) (a_X_refusals : Nat → Int32) (a_X_now_stake : Nat → Int32) (x1 : Int32) (x2 : Int32) (x3 : Int32) (x4 : Int32) (x5 : Int32) (o : Int32 × (Nat → Int32) × (Nat → Int32)) (hg : g_X10_stake x1 x2 x3 x4 x5 a_X_refusals a_X_now_stake = some o) : zM l yX10_stake (Cond.code yX10_stake cX10_stake 6 (some .int) :: wsL_law) rm_X10_stake D (zTy cI cJ cZ cA) ga [.ref q_X, .int x1, .int x2, .int x3, .int x4, .int x5] (ws_X10_stake cI cJ cZ cA q_X q_X_refusals q_X_now q_X_now_stake u_X_draft u_X_text u_X_reader u_X_rule u_X_day u_X_plan u_X_guess u_X_quarrel u_X_fraction u_X_firstImage u_X_secondImage u_X_kept u_X_now_people u_X_now_talks u_X_now_dues u_X_now_sights u_X_now_rule u_X_now_settings a_X_refusals a_X_now_stake) (ws_X10_stake cI cJ cZ cA q_X q_X_refusals q_X_now q_X_now_stake u_X_draft u_X_text u_X_reader u_X_rule u_X_day u_X_plan u_X_guess u_X_quarrel u_X_fraction u_X_firstImage u_X_secondImage u_X_kept u_X_now_people u_X_now_talks u_X_now_dues u_X_now_sights u_X_now_rule u_X_now_settings o.2.1 o.2.2) (some (.int o.1)) := by
  refine zenterI (own := RX10) (by decide) rfl rfl (Nat.le_of_ble_eq_true rfl) ?_
  intro p e s m args below meth c A ls Q S hA hK hG hl hP hD hS hret0
  have hx := S.1
  have hb := S.2.1
  have ht : ∀ w, w ∈ wsL_law → w.before args s = true := fun w h => S.2.2.2.2 w (List.mem_cons_of_mem _ h)
  have hret : ∀ (r9 : Int32) (a_X_refusals : Nat → Int32) (a_X_now_stake : Nat → Int32), (some (r9, a_X_refusals, a_X_now_stake) : Option (Int32 × (Nat → Int32) × (Nat → Int32))) = some o → ∀ (H : Heap) (locs : List Loc) (pc : Nat) (ls : Array Slot), va_P D vwCl (ws_X10_stake cI cJ cZ cA q_X q_X_refusals q_X_now q_X_now_stake u_X_draft u_X_text u_X_reader u_X_rule u_X_day u_X_plan u_X_guess u_X_quarrel u_X_fraction u_X_firstImage u_X_secondImage u_X_kept u_X_now_people u_X_now_talks u_X_now_dues u_X_now_sights u_X_now_rule u_X_now_settings a_X_refusals a_X_now_stake) H → va_S A s.heap H locs → decode cX10_stake pc = .ok (.ireturn, 1) → W p l e rm_X10_stake s m args below meth c H locs 0 0 Q (F0 m pc ls [.int r9]) := by
    intro r9 a_X_refusals a_X_now_stake he; cases he; exact hret0
  have hl : lv_has ls 6 [(0, .ref q_X), (1, .int x1), (2, .int x2), (3, .int x3), (4, .int x4), (5, .int x5)] := hl
  have B54 : ∀ (a_X_refusals : Nat → Int32) (a_X_now_stake : Nat → Int32) (H : Heap) (locs : List Loc) (ls : Array Slot) (hl : lv_has ls 6 [(0, .ref q_X)]) (hP : va_P D vwCl (ws_X10_stake cI cJ cZ cA q_X q_X_refusals q_X_now q_X_now_stake u_X_draft u_X_text u_X_reader u_X_rule u_X_day u_X_plan u_X_guess u_X_quarrel u_X_fraction u_X_firstImage u_X_secondImage u_X_kept u_X_now_people u_X_now_talks u_X_now_dues u_X_now_sights u_X_now_rule u_X_now_settings a_X_refusals a_X_now_stake) H) (hD : va_D A (ws_X10_stake cI cJ cZ cA q_X q_X_refusals q_X_now q_X_now_stake u_X_draft u_X_text u_X_reader u_X_rule u_X_day u_X_plan u_X_guess u_X_quarrel u_X_fraction u_X_firstImage u_X_secondImage u_X_kept u_X_now_people u_X_now_talks u_X_now_dues u_X_now_sights u_X_now_rule u_X_now_settings a_X_refusals a_X_now_stake)) (hS : va_S A s.heap H locs), g_X10_stake_54 x1 x2 x3 x4 x5 a_X_refusals a_X_now_stake = some o → W p l e rm_X10_stake s m args below meth c H locs 0 0 Q (F0 m 54 ls []) := by
    intro  a_X_refusals a_X_now_stake H locs ls hl hP hD hS hg
    refine lv_aload_n hx hb dX10_stake_54 rfl (lv_at hl 0 rfl) ?_
    refine lv_bipush (v := (-2)) hx hb dX10_stake_55 (by decide) ?_
    obtain ⟨v3, hc4, hg⟩ := zbd hg
    refine zcallV (rest := []) S (c_X10_refuse l D cI cJ cZ cA ga q_X q_X_refusals (.ref q_X_now) u_X_draft u_X_text u_X_reader u_X_rule u_X_day u_X_plan u_X_guess u_X_quarrel u_X_fraction u_X_firstImage u_X_secondImage u_X_kept a_X_refusals (-2) v3 hc4) (zgV zw_184 zw_185 zw_186 zw_2 zw_187) rfl hd_X10_refuse ⟨rfl, rfl⟩ ⟨Nat.le_of_ble_eq_true rfl, Nat.le_of_ble_eq_true rfl⟩ 0 10 rfl rfl rfl hl.1 rfl (Nat.le_of_ble_eq_true rfl) dX10_stake_57 hP hD hS hA hK hG (isC := [0, 1]) rfl (by decide +kernel) rfl ⟨Nat.zero_le _, Nat.zero_le _⟩ (pl := [some 0, some 1, none, none]) (nw := 4) rfl (by decide +kernel) (w2 := (ws_X10_stake cI cJ cZ cA q_X q_X_refusals q_X_now q_X_now_stake u_X_draft u_X_text u_X_reader u_X_rule u_X_day u_X_plan u_X_guess u_X_quarrel u_X_fraction u_X_firstImage u_X_secondImage u_X_kept u_X_now_people u_X_now_talks u_X_now_dues u_X_now_sights u_X_now_rule u_X_now_settings v3.2 a_X_now_stake)) rfl (st1 := [.int v3.1]) rfl (fun H locs hP hD hS => ?_)
    exact hret v3.1 v3.2 a_X_now_stake hg _ _ _ _ hP hS dX10_stake_60
  refine lv_iload_n hx hb dX10_stake_0 rfl (lv_at hl 1 rfl) ?_
  refine lv_iconst (v := 0) hx hb dX10_stake_1 (by decide) ?_
  refine lv_bipush (v := 20) hx hb dX10_stake_2 (by decide) ?_
  obtain ⟨v1, hc2, hg⟩ := zbd hg
  refine zcallS (rest := []) S (c_X10_isIn l D cI cJ cZ cA ga x1 0 20 v1 hc2) (zgS zw_188 zw_189 zw_2 zw_190) rfl hd_X10_isIn ⟨rfl, rfl⟩ ⟨Nat.le_of_ble_eq_true rfl, Nat.le_of_ble_eq_true rfl⟩ rfl hl.1 rfl (Nat.le_of_ble_eq_true rfl) dX10_stake_4 hP hD hS hA hK hG (isC := []) rfl (by decide +kernel) rfl ⟨Nat.zero_le _, Nat.zero_le _⟩ (pl := [none, none, none, none]) (nw := 4) rfl (by decide +kernel) (w2 := (ws_X10_stake cI cJ cZ cA q_X q_X_refusals q_X_now q_X_now_stake u_X_draft u_X_text u_X_reader u_X_rule u_X_day u_X_plan u_X_guess u_X_quarrel u_X_fraction u_X_firstImage u_X_secondImage u_X_kept u_X_now_people u_X_now_talks u_X_now_dues u_X_now_sights u_X_now_rule u_X_now_settings a_X_refusals a_X_now_stake)) rfl (st1 := [.int v1]) rfl (fun H locs hP hD hS => ?_)
  refine lv_if_eq (tgt := 54) hx hb dX10_stake_7 (by decide) (fun h7 => ?_) (fun h7 => ?_)
  · have hg := zp hg h7
    exact B54 a_X_refusals a_X_now_stake _ _ _ (lv_sub hl [0] rfl) hP hD hS hg
  · have hg := zn hg h7
    refine lv_iload_n hx hb dX10_stake_10 rfl (lv_at hl 2 rfl) ?_
    refine lv_iconst (v := 0) hx hb dX10_stake_11 (by decide) ?_
    refine lv_bipush (v := 20) hx hb dX10_stake_12 (by decide) ?_
    obtain ⟨v5, hc6, hg⟩ := zbd hg
    refine zcallS (rest := []) S (c_X10_isIn l D cI cJ cZ cA ga x2 0 20 v5 hc6) (zgS zw_188 zw_189 zw_2 zw_190) rfl hd_X10_isIn ⟨rfl, rfl⟩ ⟨Nat.le_of_ble_eq_true rfl, Nat.le_of_ble_eq_true rfl⟩ rfl hl.1 rfl (Nat.le_of_ble_eq_true rfl) dX10_stake_14 hP hD hS hA hK hG (isC := []) rfl (by decide +kernel) rfl ⟨Nat.zero_le _, Nat.zero_le _⟩ (pl := [none, none, none, none]) (nw := 4) rfl (by decide +kernel) (w2 := (ws_X10_stake cI cJ cZ cA q_X q_X_refusals q_X_now q_X_now_stake u_X_draft u_X_text u_X_reader u_X_rule u_X_day u_X_plan u_X_guess u_X_quarrel u_X_fraction u_X_firstImage u_X_secondImage u_X_kept u_X_now_people u_X_now_talks u_X_now_dues u_X_now_sights u_X_now_rule u_X_now_settings a_X_refusals a_X_now_stake)) rfl (st1 := [.int v5]) rfl (fun H locs hP hD hS => ?_)
    refine lv_if_eq (tgt := 54) hx hb dX10_stake_17 (by decide) (fun h17 => ?_) (fun h17 => ?_)
    · have hg := zp hg h17
      exact B54 a_X_refusals a_X_now_stake _ _ _ (lv_sub hl [0] rfl) hP hD hS hg
    · have hg := zn hg h17
      refine lv_iload_n hx hb dX10_stake_20 rfl (lv_at hl 3 rfl) ?_
      refine lv_bipush (v := (-99)) hx hb dX10_stake_21 (by decide) ?_
      refine lv_bipush (v := 99) hx hb dX10_stake_23 (by decide) ?_
      obtain ⟨v7, hc8, hg⟩ := zbd hg
      refine zcallS (rest := []) S (c_X10_isIn l D cI cJ cZ cA ga x3 (-99) 99 v7 hc8) (zgS zw_188 zw_189 zw_2 zw_190) rfl hd_X10_isIn ⟨rfl, rfl⟩ ⟨Nat.le_of_ble_eq_true rfl, Nat.le_of_ble_eq_true rfl⟩ rfl hl.1 rfl (Nat.le_of_ble_eq_true rfl) dX10_stake_25 hP hD hS hA hK hG (isC := []) rfl (by decide +kernel) rfl ⟨Nat.zero_le _, Nat.zero_le _⟩ (pl := [none, none, none, none]) (nw := 4) rfl (by decide +kernel) (w2 := (ws_X10_stake cI cJ cZ cA q_X q_X_refusals q_X_now q_X_now_stake u_X_draft u_X_text u_X_reader u_X_rule u_X_day u_X_plan u_X_guess u_X_quarrel u_X_fraction u_X_firstImage u_X_secondImage u_X_kept u_X_now_people u_X_now_talks u_X_now_dues u_X_now_sights u_X_now_rule u_X_now_settings a_X_refusals a_X_now_stake)) rfl (st1 := [.int v7]) rfl (fun H locs hP hD hS => ?_)
      refine lv_if_eq (tgt := 54) hx hb dX10_stake_28 (by decide) (fun h28 => ?_) (fun h28 => ?_)
      · have hg := zp hg h28
        exact B54 a_X_refusals a_X_now_stake _ _ _ (lv_sub hl [0] rfl) hP hD hS hg
      · have hg := zn hg h28
        refine lv_iload hx hb dX10_stake_31 (lv_at hl 4 rfl) ?_
        refine lv_bipush (v := (-99)) hx hb dX10_stake_33 (by decide) ?_
        refine lv_bipush (v := 99) hx hb dX10_stake_35 (by decide) ?_
        obtain ⟨v9, hc10, hg⟩ := zbd hg
        refine zcallS (rest := []) S (c_X10_isIn l D cI cJ cZ cA ga x4 (-99) 99 v9 hc10) (zgS zw_188 zw_189 zw_2 zw_190) rfl hd_X10_isIn ⟨rfl, rfl⟩ ⟨Nat.le_of_ble_eq_true rfl, Nat.le_of_ble_eq_true rfl⟩ rfl hl.1 rfl (Nat.le_of_ble_eq_true rfl) dX10_stake_37 hP hD hS hA hK hG (isC := []) rfl (by decide +kernel) rfl ⟨Nat.zero_le _, Nat.zero_le _⟩ (pl := [none, none, none, none]) (nw := 4) rfl (by decide +kernel) (w2 := (ws_X10_stake cI cJ cZ cA q_X q_X_refusals q_X_now q_X_now_stake u_X_draft u_X_text u_X_reader u_X_rule u_X_day u_X_plan u_X_guess u_X_quarrel u_X_fraction u_X_firstImage u_X_secondImage u_X_kept u_X_now_people u_X_now_talks u_X_now_dues u_X_now_sights u_X_now_rule u_X_now_settings a_X_refusals a_X_now_stake)) rfl (st1 := [.int v9]) rfl (fun H locs hP hD hS => ?_)
        refine lv_if_eq (tgt := 54) hx hb dX10_stake_40 (by decide) (fun h40 => ?_) (fun h40 => ?_)
        · have hg := zp hg h40
          exact B54 a_X_refusals a_X_now_stake _ _ _ (lv_sub hl [0] rfl) hP hD hS hg
        · have hg := zn hg h40
          refine lv_iload hx hb dX10_stake_43 (lv_at hl 5 rfl) ?_
          refine lv_iconst (v := 0) hx hb dX10_stake_45 (by decide) ?_
          refine lv_bipush (v := 99) hx hb dX10_stake_46 (by decide) ?_
          obtain ⟨v11, hc12, hg⟩ := zbd hg
          refine zcallS (rest := []) S (c_X10_isIn l D cI cJ cZ cA ga x5 0 99 v11 hc12) (zgS zw_188 zw_189 zw_2 zw_190) rfl hd_X10_isIn ⟨rfl, rfl⟩ ⟨Nat.le_of_ble_eq_true rfl, Nat.le_of_ble_eq_true rfl⟩ rfl hl.1 rfl (Nat.le_of_ble_eq_true rfl) dX10_stake_48 hP hD hS hA hK hG (isC := []) rfl (by decide +kernel) rfl ⟨Nat.zero_le _, Nat.zero_le _⟩ (pl := [none, none, none, none]) (nw := 4) rfl (by decide +kernel) (w2 := (ws_X10_stake cI cJ cZ cA q_X q_X_refusals q_X_now q_X_now_stake u_X_draft u_X_text u_X_reader u_X_rule u_X_day u_X_plan u_X_guess u_X_quarrel u_X_fraction u_X_firstImage u_X_secondImage u_X_kept u_X_now_people u_X_now_talks u_X_now_dues u_X_now_sights u_X_now_rule u_X_now_settings a_X_refusals a_X_now_stake)) rfl (st1 := [.int v11]) rfl (fun H locs hP hD hS => ?_)
          refine lv_if_ne (tgt := 61) hx hb dX10_stake_51 (by decide) (fun h51 => ?_) (fun h51 => ?_)
          · have hg := zn hg h51
            refine lv_aload_n hx hb dX10_stake_61 rfl (lv_at hl 0 rfl) ?_
            refine zget (C := RX10) (T := TX10) (N := 14) S hK hP 0 rfl rfl 0 (Nat.le_of_ble_eq_true rfl) zf_10 zw_51 rfl dX10_stake_62 ?_
            refine zget (C := RX9) (T := TX9) (N := 7) S hK hP 2 rfl rfl 6 (Nat.le_of_ble_eq_true rfl) zf_9 zw_850 rfl dX10_stake_65 ?_
            refine lv_iconst (v := 0) hx hb dX10_stake_68 (by decide) ?_
            refine lv_iload_n hx hb dX10_stake_69 rfl (lv_at hl 1 rfl) ?_
            refine ziast hx hb hK hP hD hS 3 0 rfl rfl (j := 0) (zin (by decide)) (by decide) dX10_stake_70 (w2 := (ws_X10_stake cI cJ cZ cA q_X q_X_refusals q_X_now q_X_now_stake u_X_draft u_X_text u_X_reader u_X_rule u_X_day u_X_plan u_X_guess u_X_quarrel u_X_fraction u_X_firstImage u_X_secondImage u_X_kept u_X_now_people u_X_now_talks u_X_now_dues u_X_now_sights u_X_now_rule u_X_now_settings a_X_refusals (upd a_X_now_stake 0 x1))) rfl (fun H locs hP hD hS => ?_)
            refine lv_aload_n hx hb dX10_stake_71 rfl (lv_at hl 0 rfl) ?_
            refine zget (C := RX10) (T := TX10) (N := 14) S hK hP 0 rfl rfl 0 (Nat.le_of_ble_eq_true rfl) zf_10 zw_51 rfl dX10_stake_72 ?_
            refine zget (C := RX9) (T := TX9) (N := 7) S hK hP 2 rfl rfl 6 (Nat.le_of_ble_eq_true rfl) zf_9 zw_850 rfl dX10_stake_75 ?_
            refine lv_iconst (v := 1) hx hb dX10_stake_78 (by decide) ?_
            refine lv_iload_n hx hb dX10_stake_79 rfl (lv_at hl 2 rfl) ?_
            refine ziast hx hb hK hP hD hS 3 0 rfl rfl (j := 1) (zin (by decide)) (by decide) dX10_stake_80 (w2 := (ws_X10_stake cI cJ cZ cA q_X q_X_refusals q_X_now q_X_now_stake u_X_draft u_X_text u_X_reader u_X_rule u_X_day u_X_plan u_X_guess u_X_quarrel u_X_fraction u_X_firstImage u_X_secondImage u_X_kept u_X_now_people u_X_now_talks u_X_now_dues u_X_now_sights u_X_now_rule u_X_now_settings a_X_refusals (upd (upd a_X_now_stake 0 x1) 1 x2))) rfl (fun H locs hP hD hS => ?_)
            refine lv_aload_n hx hb dX10_stake_81 rfl (lv_at hl 0 rfl) ?_
            refine zget (C := RX10) (T := TX10) (N := 14) S hK hP 0 rfl rfl 0 (Nat.le_of_ble_eq_true rfl) zf_10 zw_51 rfl dX10_stake_82 ?_
            refine zget (C := RX9) (T := TX9) (N := 7) S hK hP 2 rfl rfl 6 (Nat.le_of_ble_eq_true rfl) zf_9 zw_850 rfl dX10_stake_85 ?_
            refine lv_iconst (v := 2) hx hb dX10_stake_88 (by decide) ?_
            refine lv_iload_n hx hb dX10_stake_89 rfl (lv_at hl 3 rfl) ?_
            refine ziast hx hb hK hP hD hS 3 0 rfl rfl (j := 2) (zin (by decide)) (by decide) dX10_stake_90 (w2 := (ws_X10_stake cI cJ cZ cA q_X q_X_refusals q_X_now q_X_now_stake u_X_draft u_X_text u_X_reader u_X_rule u_X_day u_X_plan u_X_guess u_X_quarrel u_X_fraction u_X_firstImage u_X_secondImage u_X_kept u_X_now_people u_X_now_talks u_X_now_dues u_X_now_sights u_X_now_rule u_X_now_settings a_X_refusals (upd (upd (upd a_X_now_stake 0 x1) 1 x2) 2 x3))) rfl (fun H locs hP hD hS => ?_)
            refine lv_aload_n hx hb dX10_stake_91 rfl (lv_at hl 0 rfl) ?_
            refine zget (C := RX10) (T := TX10) (N := 14) S hK hP 0 rfl rfl 0 (Nat.le_of_ble_eq_true rfl) zf_10 zw_51 rfl dX10_stake_92 ?_
            refine zget (C := RX9) (T := TX9) (N := 7) S hK hP 2 rfl rfl 6 (Nat.le_of_ble_eq_true rfl) zf_9 zw_850 rfl dX10_stake_95 ?_
            refine lv_iconst (v := 3) hx hb dX10_stake_98 (by decide) ?_
            refine lv_iload hx hb dX10_stake_99 (lv_at hl 4 rfl) ?_
            refine ziast hx hb hK hP hD hS 3 0 rfl rfl (j := 3) (zin (by decide)) (by decide) dX10_stake_101 (w2 := (ws_X10_stake cI cJ cZ cA q_X q_X_refusals q_X_now q_X_now_stake u_X_draft u_X_text u_X_reader u_X_rule u_X_day u_X_plan u_X_guess u_X_quarrel u_X_fraction u_X_firstImage u_X_secondImage u_X_kept u_X_now_people u_X_now_talks u_X_now_dues u_X_now_sights u_X_now_rule u_X_now_settings a_X_refusals (upd (upd (upd (upd a_X_now_stake 0 x1) 1 x2) 2 x3) 3 x4))) rfl (fun H locs hP hD hS => ?_)
            refine lv_aload_n hx hb dX10_stake_102 rfl (lv_at hl 0 rfl) ?_
            refine zget (C := RX10) (T := TX10) (N := 14) S hK hP 0 rfl rfl 0 (Nat.le_of_ble_eq_true rfl) zf_10 zw_51 rfl dX10_stake_103 ?_
            refine zget (C := RX9) (T := TX9) (N := 7) S hK hP 2 rfl rfl 6 (Nat.le_of_ble_eq_true rfl) zf_9 zw_850 rfl dX10_stake_106 ?_
            refine lv_iconst (v := 4) hx hb dX10_stake_109 (by decide) ?_
            refine lv_iload hx hb dX10_stake_110 (lv_at hl 5 rfl) ?_
            refine ziast hx hb hK hP hD hS 3 0 rfl rfl (j := 4) (zin (by decide)) (by decide) dX10_stake_112 (w2 := (ws_X10_stake cI cJ cZ cA q_X q_X_refusals q_X_now q_X_now_stake u_X_draft u_X_text u_X_reader u_X_rule u_X_day u_X_plan u_X_guess u_X_quarrel u_X_fraction u_X_firstImage u_X_secondImage u_X_kept u_X_now_people u_X_now_talks u_X_now_dues u_X_now_sights u_X_now_rule u_X_now_settings a_X_refusals (upd (upd (upd (upd (upd a_X_now_stake 0 x1) 1 x2) 2 x3) 3 x4) 4 x5))) rfl (fun H locs hP hD hS => ?_)
            refine lv_iconst (v := 1) hx hb dX10_stake_113 (by decide) ?_
            exact hret 1 a_X_refusals (upd (upd (upd (upd (upd a_X_now_stake 0 x1) 1 x2) 2 x3) 3 x4) 4 x5) hg _ _ _ _ hP hS dX10_stake_114
          · have hg := zp hg h51
            exact B54 a_X_refusals a_X_now_stake _ _ _ (lv_sub hl [0] rfl) hP hD hS hg

/-! SpokenClock$Quarrel.end(I)I -/
abbrev ws_X5_end (cI cJ cZ cA : ClassId) (q_X_quarrel q_X_quarrel_hers q_X_quarrel_his : Nat) (u_X_quarrel_talks : Value) (v_X_quarrel_firstTalk : Int32) (v_X_quarrel_gone : Int32) (a_X_quarrel_hers : Nat → Int32) (a_X_quarrel_his : Nat → Int32) : va_W := [(q_X_quarrel, .inr (5, [.ref q_X_quarrel_hers, .ref q_X_quarrel_his, u_X_quarrel_talks, .int v_X_quarrel_firstTalk, .int v_X_quarrel_gone])), (q_X_quarrel_hers, .inl (cI, 21, .inl a_X_quarrel_hers)), (q_X_quarrel_his, .inl (cI, 21, .inl a_X_quarrel_his))]
abbrev rm_X5_end : Room := { frames := 0, cells := 0, slots := 0, locals := 0 }
def g_X5_end (v_X_quarrel_firstTalk : Int32) (v_X_quarrel_gone : Int32) (a_X_quarrel_hers : Nat → Int32) (a_X_quarrel_his : Nat → Int32) (x1 : Int32) : Option (Int32) :=
  if x1 = 0 then (
    some (a_X_quarrel_hers 0)
  ) else
  if x1 = 1 then (
    some (a_X_quarrel_his 0)
  ) else
  if x1 = 2 then (
    some (v_X_quarrel_firstTalk)
  ) else
  (
    some (v_X_quarrel_gone)
  )
theorem hd_X5_end : yX5_end.cls = RX5 ∧ yX5_end.cls ≠ "java/lang/invoke/MethodHandle" ∧ yX5_end.cls ≠ "java/lang/invoke/VarHandle" ∧ (parseMethodDescriptor yX5_end.desc).map (fun d => d.parameters.length) = some 1 := by decide +kernel
set_option maxHeartbeats 4000000 in
set_option maxRecDepth 100000 in
theorem c_X5_end (l : Launch) (D : va_G) (cI cJ cZ cA : ClassId) (ga : Nat → Nat) (q_X_quarrel q_X_quarrel_hers q_X_quarrel_his : Nat) (u_X_quarrel_talks : Value) (v_X_quarrel_firstTalk : Int32) (v_X_quarrel_gone : Int32) (a_X_quarrel_hers : Nat → Int32) (a_X_quarrel_his : Nat → Int32) (x1 : Int32) (o : Int32) (hg : g_X5_end v_X_quarrel_firstTalk v_X_quarrel_gone a_X_quarrel_hers a_X_quarrel_his x1 = some o) : zM l yX5_end (Cond.code yX5_end cX5_end 2 (some .int) :: wsL_law) rm_X5_end D (zTy cI cJ cZ cA) ga [.ref q_X_quarrel, .int x1] (ws_X5_end cI cJ cZ cA q_X_quarrel q_X_quarrel_hers q_X_quarrel_his u_X_quarrel_talks v_X_quarrel_firstTalk v_X_quarrel_gone a_X_quarrel_hers a_X_quarrel_his) (ws_X5_end cI cJ cZ cA q_X_quarrel q_X_quarrel_hers q_X_quarrel_his u_X_quarrel_talks v_X_quarrel_firstTalk v_X_quarrel_gone a_X_quarrel_hers a_X_quarrel_his) (some (.int o)) := by
  refine zenterI (own := RX5) (by decide) rfl rfl (Nat.le_of_ble_eq_true rfl) ?_
  intro p e s m args below meth c A ls Q S hA hK hG hl hP hD hS hret0
  have hx := S.1
  have hb := S.2.1
  have ht : ∀ w, w ∈ wsL_law → w.before args s = true := fun w h => S.2.2.2.2 w (List.mem_cons_of_mem _ h)
  have hret : ∀ (r9 : Int32), (some (r9) : Option (Int32)) = some o → ∀ (H : Heap) (locs : List Loc) (pc : Nat) (ls : Array Slot), va_P D vwCl (ws_X5_end cI cJ cZ cA q_X_quarrel q_X_quarrel_hers q_X_quarrel_his u_X_quarrel_talks v_X_quarrel_firstTalk v_X_quarrel_gone a_X_quarrel_hers a_X_quarrel_his) H → va_S A s.heap H locs → decode cX5_end pc = .ok (.ireturn, 1) → W p l e rm_X5_end s m args below meth c H locs 0 0 Q (F0 m pc ls [.int r9]) := by
    intro r9 he; cases he; exact hret0
  have hl : lv_has ls 2 [(0, .ref q_X_quarrel), (1, .int x1)] := hl
  refine lv_iload_n hx hb dX5_end_0 rfl (lv_at hl 1 rfl) ?_
  by_cases h1_0 : x1 = 0
  · have hg := zp hg h1_0
    refine lv_tableIn (tgt := 28) hx hb dX5_end_1 (by rw [h1_0]; decide) (by rw [h1_0]; decide) (by rw [h1_0]; rfl) (by decide) ?_
    refine lv_aload_n hx hb dX5_end_28 rfl (lv_at hl 0 rfl) ?_
    refine zget (C := RX5) (T := TX5) (N := 5) S hK hP 0 rfl rfl 0 (Nat.le_of_ble_eq_true rfl) zf_5 zw_59 rfl dX5_end_29 ?_
    refine lv_iconst (v := 0) hx hb dX5_end_32 (by decide) ?_
    refine ziald hx hb hK hP 1 0 rfl rfl (j := 0) (zin (by decide)) (by decide) dX5_end_33 ?_
    exact hret (a_X_quarrel_hers 0) hg _ _ _ _ hP hS dX5_end_34
  · have hg := zn hg h1_0
    by_cases h1_1 : x1 = 1
    · have hg := zp hg h1_1
      refine lv_tableIn (tgt := 35) hx hb dX5_end_1 (by rw [h1_1]; decide) (by rw [h1_1]; decide) (by rw [h1_1]; rfl) (by decide) ?_
      refine lv_aload_n hx hb dX5_end_35 rfl (lv_at hl 0 rfl) ?_
      refine zget (C := RX5) (T := TX5) (N := 5) S hK hP 0 rfl rfl 1 (Nat.le_of_ble_eq_true rfl) zf_5 zw_60 rfl dX5_end_36 ?_
      refine lv_iconst (v := 0) hx hb dX5_end_39 (by decide) ?_
      refine ziald hx hb hK hP 2 0 rfl rfl (j := 0) (zin (by decide)) (by decide) dX5_end_40 ?_
      exact hret (a_X_quarrel_his 0) hg _ _ _ _ hP hS dX5_end_41
    · have hg := zn hg h1_1
      by_cases h1_2 : x1 = 2
      · have hg := zp hg h1_2
        refine lv_tableIn (tgt := 42) hx hb dX5_end_1 (by rw [h1_2]; decide) (by rw [h1_2]; decide) (by rw [h1_2]; rfl) (by decide) ?_
        refine lv_aload_n hx hb dX5_end_42 rfl (lv_at hl 0 rfl) ?_
        refine zget (C := RX5) (T := TX5) (N := 5) S hK hP 0 rfl rfl 3 (Nat.le_of_ble_eq_true rfl) zf_5 zw_864 rfl dX5_end_43 ?_
        exact hret v_X_quarrel_firstTalk hg _ _ _ _ hP hS dX5_end_46
      · have hg := zn hg h1_2
        refine lv_tableOut (tgt := 47) hx hb dX5_end_1 (by have a0 := lv_neT h1_0 (a := 0) (by decide); have a1 := lv_neT h1_1 (a := 1) (by decide); have a2 := lv_neT h1_2 (a := 2) (by decide); omega) (by decide) ?_
        refine lv_aload_n hx hb dX5_end_47 rfl (lv_at hl 0 rfl) ?_
        refine zget (C := RX5) (T := TX5) (N := 5) S hK hP 0 rfl rfl 4 (Nat.le_of_ble_eq_true rfl) zf_5 zw_865 rfl dX5_end_48 ?_
        exact hret v_X_quarrel_gone hg _ _ _ _ hP hS dX5_end_51

/-! SpokenClock$Quarrel.weigh([III)V -/
abbrev ws_X5_weigh (cI cJ cZ cA : ClassId) (q_X_quarrel q_p1 q_X_quarrel_talks q_X_quarrel_hers q_X_quarrel_his : Nat) (u_X_quarrel_firstTalk : Value) (u_X_quarrel_gone : Value) (a_X_quarrel_talks : Nat → Int32) (a_X_quarrel_hers : Nat → Int32) (a_p1 : Nat → Int32) (a_X_quarrel_his : Nat → Int32) : va_W := [(q_X_quarrel, .inr (5, [.ref q_X_quarrel_hers, .ref q_X_quarrel_his, .ref q_X_quarrel_talks, u_X_quarrel_firstTalk, u_X_quarrel_gone])), (q_X_quarrel_talks, .inl (cI, 40, .inl a_X_quarrel_talks)), (q_X_quarrel_hers, .inl (cI, 21, .inl a_X_quarrel_hers)), (q_p1, .inl (cI, 5, .inl a_p1)), (q_X_quarrel_his, .inl (cI, 21, .inl a_X_quarrel_his))]
abbrev rm_X5_weigh : Room := { frames := 0, cells := 0, slots := 0, locals := 0 }
def g_X5_weigh_193 (a_p1 : Nat → Int32) (x2 : Int32) (x3 : Int32) (k23 : Int32 → Int32 → (Nat → Int32) → (Nat → Int32) → (Nat → Int32) → Option ((Nat → Int32) × (Nat → Int32) × (Nat → Int32))) (x4 : Int32) (x5 : Int32) (a_X_quarrel_talks : Nat → Int32) (a_X_quarrel_hers : Nat → Int32) (a_X_quarrel_his : Nat → Int32) : Option ((Nat → Int32) × (Nat → Int32) × (Nat → Int32)) :=
  k23 x4 (x5 + 1) a_X_quarrel_talks a_X_quarrel_hers a_X_quarrel_his
def g_X5_weigh_174 (a_p1 : Nat → Int32) (x2 : Int32) (x3 : Int32) (k23 : Int32 → Int32 → (Nat → Int32) → (Nat → Int32) → (Nat → Int32) → Option ((Nat → Int32) × (Nat → Int32) × (Nat → Int32))) (x4 : Int32) (x5 : Int32) (x10 : Int32) (t1 : Int32) (t2 : Int32) (a_X_quarrel_talks : Nat → Int32) (a_X_quarrel_hers : Nat → Int32) (a_X_quarrel_his : Nat → Int32) : Option ((Nat → Int32) × (Nat → Int32) × (Nat → Int32)) :=
  if t1 < 0 ∨ 21 ≤ t1.toNatClampNeg then none else
  if x10 = 0 then (
    g_X5_weigh_193 a_p1 x2 x3 k23 x4 x5 a_X_quarrel_talks a_X_quarrel_hers (upd a_X_quarrel_his (t1.toNatClampNeg) t2)
  ) else (
    if x2 < 0 ∨ 40 ≤ x2.toNatClampNeg then none else
    if x2 < 0 ∨ 40 ≤ x2.toNatClampNeg then none else
    g_X5_weigh_193 a_p1 x2 x3 k23 x4 x5 (upd a_X_quarrel_talks (x2.toNatClampNeg) ((a_X_quarrel_talks (x2.toNatClampNeg)) ||| (1 <<< (x5 &&& 31)))) a_X_quarrel_hers (upd a_X_quarrel_his (t1.toNatClampNeg) t2)
  )
def g_X5_weigh_155 (a_p1 : Nat → Int32) (x2 : Int32) (x3 : Int32) (k23 : Int32 → Int32 → (Nat → Int32) → (Nat → Int32) → (Nat → Int32) → Option ((Nat → Int32) × (Nat → Int32) × (Nat → Int32))) (x4 : Int32) (x5 : Int32) (x7 : Int32) (x9 : Int32) (x10 : Int32) (t1 : Int32) (t2 : Int32) (a_X_quarrel_talks : Nat → Int32) (a_X_quarrel_hers : Nat → Int32) (a_X_quarrel_his : Nat → Int32) : Option ((Nat → Int32) × (Nat → Int32) × (Nat → Int32)) :=
  if t1 < 0 ∨ 21 ≤ t1.toNatClampNeg then none else
  if x10 = 0 then (
    g_X5_weigh_174 a_p1 x2 x3 k23 x4 x5 x10 x5 x7 a_X_quarrel_talks (upd a_X_quarrel_hers (t1.toNatClampNeg) t2) a_X_quarrel_his
  ) else (
    g_X5_weigh_174 a_p1 x2 x3 k23 x4 x5 x10 x5 x9 a_X_quarrel_talks (upd a_X_quarrel_hers (t1.toNatClampNeg) t2) a_X_quarrel_his
  )
def g_X5_weigh_135 (a_p1 : Nat → Int32) (x2 : Int32) (x3 : Int32) (k23 : Int32 → Int32 → (Nat → Int32) → (Nat → Int32) → (Nat → Int32) → Option ((Nat → Int32) × (Nat → Int32) × (Nat → Int32))) (x4 : Int32) (x5 : Int32) (x6 : Int32) (x7 : Int32) (x8 : Int32) (x9 : Int32) (t0 : Int32) (a_X_quarrel_talks : Nat → Int32) (a_X_quarrel_hers : Nat → Int32) (a_X_quarrel_his : Nat → Int32) : Option ((Nat → Int32) × (Nat → Int32) × (Nat → Int32)) :=
  if t0 = 0 then (
    g_X5_weigh_155 a_p1 x2 x3 k23 x4 x5 x7 x9 t0 x5 x6 a_X_quarrel_talks a_X_quarrel_hers a_X_quarrel_his
  ) else (
    g_X5_weigh_155 a_p1 x2 x3 k23 x4 x5 x7 x9 t0 x5 x8 a_X_quarrel_talks a_X_quarrel_hers a_X_quarrel_his
  )
def g_X5_weigh_100 (a_p1 : Nat → Int32) (x2 : Int32) (x3 : Int32) (k23 : Int32 → Int32 → (Nat → Int32) → (Nat → Int32) → (Nat → Int32) → Option ((Nat → Int32) × (Nat → Int32) × (Nat → Int32))) (x4 : Int32) (x5 : Int32) (x6 : Int32) (x7 : Int32) (x8 : Int32) (t0 : Int32) (t1 : Int32) (a_X_quarrel_talks : Nat → Int32) (a_X_quarrel_hers : Nat → Int32) (a_X_quarrel_his : Nat → Int32) : Option ((Nat → Int32) × (Nat → Int32) × (Nat → Int32)) :=
  if x4 = 0 then (
    if (t0 - t1) ≤ x7 then (
      g_X5_weigh_135 a_p1 x2 x3 k23 x4 x5 x6 x7 x8 (t0 - t1) 0 a_X_quarrel_talks a_X_quarrel_hers a_X_quarrel_his
    ) else (
      g_X5_weigh_135 a_p1 x2 x3 k23 x4 x5 x6 x7 x8 (t0 - t1) 1 a_X_quarrel_talks a_X_quarrel_hers a_X_quarrel_his
    )
  ) else (
    if x8 ≤ x6 then (
      g_X5_weigh_135 a_p1 x2 x3 k23 x4 x5 x6 x7 x8 (t0 - t1) 0 a_X_quarrel_talks a_X_quarrel_hers a_X_quarrel_his
    ) else (
      g_X5_weigh_135 a_p1 x2 x3 k23 x4 x5 x6 x7 x8 (t0 - t1) 1 a_X_quarrel_talks a_X_quarrel_hers a_X_quarrel_his
    )
  )
def g_X5_weigh_76 (a_p1 : Nat → Int32) (x2 : Int32) (x3 : Int32) (k23 : Int32 → Int32 → (Nat → Int32) → (Nat → Int32) → (Nat → Int32) → Option ((Nat → Int32) × (Nat → Int32) × (Nat → Int32))) (x4 : Int32) (x5 : Int32) (x6 : Int32) (x7 : Int32) (t0 : Int32) (t1 : Int32) (a_X_quarrel_talks : Nat → Int32) (a_X_quarrel_hers : Nat → Int32) (a_X_quarrel_his : Nat → Int32) : Option ((Nat → Int32) × (Nat → Int32) × (Nat → Int32)) :=
  if (x5 + 1) < 0 ∨ 21 ≤ (x5 + 1).toNatClampNeg then none else
  if x4 = 0 then (
    g_X5_weigh_100 a_p1 x2 x3 k23 x4 x5 x6 x7 (t0 - t1) (a_X_quarrel_his ((x5 + 1).toNatClampNeg)) (a_p1 4) a_X_quarrel_talks a_X_quarrel_hers a_X_quarrel_his
  ) else (
    g_X5_weigh_100 a_p1 x2 x3 k23 x4 x5 x6 x7 (t0 - t1) (a_X_quarrel_his ((x5 + 1).toNatClampNeg)) 0 a_X_quarrel_talks a_X_quarrel_hers a_X_quarrel_his
  )
def g_X5_weigh_23b (a_p1 : Nat → Int32) (x2 : Int32) (x3 : Int32) (k23 : Int32 → Int32 → (Nat → Int32) → (Nat → Int32) → (Nat → Int32) → Option ((Nat → Int32) × (Nat → Int32) × (Nat → Int32))) (x4 : Int32) (x5 : Int32) (a_X_quarrel_talks : Nat → Int32) (a_X_quarrel_hers : Nat → Int32) (a_X_quarrel_his : Nat → Int32) : Option ((Nat → Int32) × (Nat → Int32) × (Nat → Int32)) :=
  if x3 ≤ x5 then (
    some (a_X_quarrel_talks, a_X_quarrel_hers, a_X_quarrel_his)
  ) else (
    if x5 < 0 ∨ 21 ≤ x5.toNatClampNeg then none else
    if x5 < 0 ∨ 21 ≤ x5.toNatClampNeg then none else
    if (x5 + 1) < 0 ∨ 21 ≤ (x5 + 1).toNatClampNeg then none else
    if x4 = 0 then (
      g_X5_weigh_76 a_p1 x2 x3 k23 x4 x5 ((a_X_quarrel_hers (x5.toNatClampNeg)) - (a_p1 0)) ((a_X_quarrel_his (x5.toNatClampNeg)) - (a_p1 1)) (a_X_quarrel_hers ((x5 + 1).toNatClampNeg)) 0 a_X_quarrel_talks a_X_quarrel_hers a_X_quarrel_his
    ) else (
      g_X5_weigh_76 a_p1 x2 x3 k23 x4 x5 ((a_X_quarrel_hers (x5.toNatClampNeg)) - (a_p1 0)) ((a_X_quarrel_his (x5.toNatClampNeg)) - (a_p1 1)) (a_X_quarrel_hers ((x5 + 1).toNatClampNeg)) (a_p1 4) a_X_quarrel_talks a_X_quarrel_hers a_X_quarrel_his
    )
  )
def g_X5_weigh_23 (a_p1 : Nat → Int32) (x2 : Int32) (x3 : Int32) : Nat → Int32 → Int32 → (Nat → Int32) → (Nat → Int32) → (Nat → Int32) → Option ((Nat → Int32) × (Nat → Int32) × (Nat → Int32))
  | 0, _, _, _, _, _ => none
  | n + 1, x4, x5, a_X_quarrel_talks, a_X_quarrel_hers, a_X_quarrel_his => g_X5_weigh_23b a_p1 x2 x3 (g_X5_weigh_23 a_p1 x2 x3 n) x4 x5 a_X_quarrel_talks a_X_quarrel_hers a_X_quarrel_his
def g_X5_weigh_11 (a_p1 : Nat → Int32) (x2 : Int32) (x3 : Int32) (t0 : Int32) (a_X_quarrel_talks : Nat → Int32) (a_X_quarrel_hers : Nat → Int32) (a_X_quarrel_his : Nat → Int32) : Option ((Nat → Int32) × (Nat → Int32) × (Nat → Int32)) :=
  if x2 < 0 ∨ 40 ≤ x2.toNatClampNeg then none else
  g_X5_weigh_23 a_p1 x2 x3 zF t0 0 (upd a_X_quarrel_talks (x2.toNatClampNeg) 0) a_X_quarrel_hers a_X_quarrel_his
def g_X5_weigh (a_p1 : Nat → Int32) (x2 : Int32) (x3 : Int32) (a_X_quarrel_talks : Nat → Int32) (a_X_quarrel_hers : Nat → Int32) (a_X_quarrel_his : Nat → Int32) : Option ((Nat → Int32) × (Nat → Int32) × (Nat → Int32)) :=
  if (x2 - x2 / 2 * 2) = 0 then (
    g_X5_weigh_11 a_p1 x2 x3 1 a_X_quarrel_talks a_X_quarrel_hers a_X_quarrel_his
  ) else (
    g_X5_weigh_11 a_p1 x2 x3 0 a_X_quarrel_talks a_X_quarrel_hers a_X_quarrel_his
  )
theorem hd_X5_weigh : yX5_weigh.cls = RX5 ∧ yX5_weigh.cls ≠ "java/lang/invoke/MethodHandle" ∧ yX5_weigh.cls ≠ "java/lang/invoke/VarHandle" ∧ (parseMethodDescriptor yX5_weigh.desc).map (fun d => d.parameters.length) = some 3 := by decide +kernel
set_option maxHeartbeats 4000000 in
set_option maxRecDepth 100000 in
theorem c_X5_weigh (l : Launch) (D : va_G) (cI cJ cZ cA : ClassId) (ga : Nat → Nat) (q_X_quarrel q_p1 q_X_quarrel_talks q_X_quarrel_hers q_X_quarrel_his : Nat) (u_X_quarrel_firstTalk : Value) (u_X_quarrel_gone : Value) (a_X_quarrel_talks : Nat → Int32) (a_X_quarrel_hers : Nat → Int32) (a_p1 : Nat → Int32) (a_X_quarrel_his : Nat → Int32) (x2 : Int32) (x3 : Int32) (o : (Nat → Int32) × (Nat → Int32) × (Nat → Int32)) (hg : g_X5_weigh a_p1 x2 x3 a_X_quarrel_talks a_X_quarrel_hers a_X_quarrel_his = some o) : zM l yX5_weigh (Cond.code yX5_weigh cX5_weigh 11 none :: wsL_law) rm_X5_weigh D (zTy cI cJ cZ cA) ga [.ref q_X_quarrel, .ref q_p1, .int x2, .int x3] (ws_X5_weigh cI cJ cZ cA q_X_quarrel q_p1 q_X_quarrel_talks q_X_quarrel_hers q_X_quarrel_his u_X_quarrel_firstTalk u_X_quarrel_gone a_X_quarrel_talks a_X_quarrel_hers a_p1 a_X_quarrel_his) (ws_X5_weigh cI cJ cZ cA q_X_quarrel q_p1 q_X_quarrel_talks q_X_quarrel_hers q_X_quarrel_his u_X_quarrel_firstTalk u_X_quarrel_gone o.1 o.2.1 a_p1 o.2.2) none := by
  refine zenterV (own := RX5) (by decide) rfl rfl (Nat.le_of_ble_eq_true rfl) ?_
  intro p e s m args below meth c A ls Q S hA hK hG hl hP hD hS hret0
  have hx := S.1
  have hb := S.2.1
  have ht : ∀ w, w ∈ wsL_law → w.before args s = true := fun w h => S.2.2.2.2 w (List.mem_cons_of_mem _ h)
  have hret : ∀ (a_X_quarrel_talks : Nat → Int32) (a_X_quarrel_hers : Nat → Int32) (a_X_quarrel_his : Nat → Int32), (some (a_X_quarrel_talks, a_X_quarrel_hers, a_X_quarrel_his) : Option ((Nat → Int32) × (Nat → Int32) × (Nat → Int32))) = some o → ∀ (H : Heap) (locs : List Loc) (pc : Nat) (ls : Array Slot), va_P D vwCl (ws_X5_weigh cI cJ cZ cA q_X_quarrel q_p1 q_X_quarrel_talks q_X_quarrel_hers q_X_quarrel_his u_X_quarrel_firstTalk u_X_quarrel_gone a_X_quarrel_talks a_X_quarrel_hers a_p1 a_X_quarrel_his) H → va_S A s.heap H locs → decode cX5_weigh pc = .ok (.return_, 1) → W p l e rm_X5_weigh s m args below meth c H locs 0 0 Q (F0 m pc ls []) := by
    intro a_X_quarrel_talks a_X_quarrel_hers a_X_quarrel_his he; cases he; exact hret0
  have hl : lv_has ls 11 [(0, .ref q_X_quarrel), (1, .ref q_p1), (2, .int x2), (3, .int x3)] := hl
  have B193 : ∀ (k23 : Int32 → Int32 → (Nat → Int32) → (Nat → Int32) → (Nat → Int32) → Option ((Nat → Int32) × (Nat → Int32) × (Nat → Int32))) (hk23 : ∀ (x4 : Int32) (x5 : Int32) (a_X_quarrel_talks : Nat → Int32) (a_X_quarrel_hers : Nat → Int32) (a_X_quarrel_his : Nat → Int32) (H : Heap) (locs : List Loc) (ls : Array Slot) (hl : lv_has ls 11 [(0, .ref q_X_quarrel), (1, .ref q_p1), (2, .int x2), (3, .int x3), (4, .int x4), (5, .int x5)]) (hP : va_P D vwCl (ws_X5_weigh cI cJ cZ cA q_X_quarrel q_p1 q_X_quarrel_talks q_X_quarrel_hers q_X_quarrel_his u_X_quarrel_firstTalk u_X_quarrel_gone a_X_quarrel_talks a_X_quarrel_hers a_p1 a_X_quarrel_his) H) (hD : va_D A (ws_X5_weigh cI cJ cZ cA q_X_quarrel q_p1 q_X_quarrel_talks q_X_quarrel_hers q_X_quarrel_his u_X_quarrel_firstTalk u_X_quarrel_gone a_X_quarrel_talks a_X_quarrel_hers a_p1 a_X_quarrel_his)) (hS : va_S A s.heap H locs), k23 x4 x5 a_X_quarrel_talks a_X_quarrel_hers a_X_quarrel_his = some o → W p l e rm_X5_weigh s m args below meth c H locs 0 0 Q (F0 m 23 ls [])) (x4 : Int32) (x5 : Int32) (a_X_quarrel_talks : Nat → Int32) (a_X_quarrel_hers : Nat → Int32) (a_X_quarrel_his : Nat → Int32) (H : Heap) (locs : List Loc) (ls : Array Slot) (hl : lv_has ls 11 [(0, .ref q_X_quarrel), (1, .ref q_p1), (2, .int x2), (3, .int x3), (4, .int x4), (5, .int x5)]) (hP : va_P D vwCl (ws_X5_weigh cI cJ cZ cA q_X_quarrel q_p1 q_X_quarrel_talks q_X_quarrel_hers q_X_quarrel_his u_X_quarrel_firstTalk u_X_quarrel_gone a_X_quarrel_talks a_X_quarrel_hers a_p1 a_X_quarrel_his) H) (hD : va_D A (ws_X5_weigh cI cJ cZ cA q_X_quarrel q_p1 q_X_quarrel_talks q_X_quarrel_hers q_X_quarrel_his u_X_quarrel_firstTalk u_X_quarrel_gone a_X_quarrel_talks a_X_quarrel_hers a_p1 a_X_quarrel_his)) (hS : va_S A s.heap H locs), g_X5_weigh_193 a_p1 x2 x3 k23 x4 x5 a_X_quarrel_talks a_X_quarrel_hers a_X_quarrel_his = some o → W p l e rm_X5_weigh s m args below meth c H locs 0 0 Q (F0 m 193 ls []) := by
    intro k23 hk23 x4 x5 a_X_quarrel_talks a_X_quarrel_hers a_X_quarrel_his H locs ls hl hP hD hS hg
    refine lv_iinc (k := 5) (v := x5 + 1) (lv' := [(5, .int (x5 + 1)), (0, .ref q_X_quarrel), (1, .ref q_p1), (2, .int x2), (3, .int x3), (4, .int x4)]) hx hb dX5_weigh_193 hl rfl (zinc (by decide)) (by decide) rfl (fun ls hl => ?_)
    refine lv_goto (tgt := 23) hx hb dX5_weigh_196 (by decide) ?_
    exact hk23 x4 (x5 + 1) a_X_quarrel_talks a_X_quarrel_hers a_X_quarrel_his _ _ _ (lv_sub hl [1, 2, 3, 4, 5, 0] rfl) hP hD hS hg
  have B174 : ∀ (k23 : Int32 → Int32 → (Nat → Int32) → (Nat → Int32) → (Nat → Int32) → Option ((Nat → Int32) × (Nat → Int32) × (Nat → Int32))) (hk23 : ∀ (x4 : Int32) (x5 : Int32) (a_X_quarrel_talks : Nat → Int32) (a_X_quarrel_hers : Nat → Int32) (a_X_quarrel_his : Nat → Int32) (H : Heap) (locs : List Loc) (ls : Array Slot) (hl : lv_has ls 11 [(0, .ref q_X_quarrel), (1, .ref q_p1), (2, .int x2), (3, .int x3), (4, .int x4), (5, .int x5)]) (hP : va_P D vwCl (ws_X5_weigh cI cJ cZ cA q_X_quarrel q_p1 q_X_quarrel_talks q_X_quarrel_hers q_X_quarrel_his u_X_quarrel_firstTalk u_X_quarrel_gone a_X_quarrel_talks a_X_quarrel_hers a_p1 a_X_quarrel_his) H) (hD : va_D A (ws_X5_weigh cI cJ cZ cA q_X_quarrel q_p1 q_X_quarrel_talks q_X_quarrel_hers q_X_quarrel_his u_X_quarrel_firstTalk u_X_quarrel_gone a_X_quarrel_talks a_X_quarrel_hers a_p1 a_X_quarrel_his)) (hS : va_S A s.heap H locs), k23 x4 x5 a_X_quarrel_talks a_X_quarrel_hers a_X_quarrel_his = some o → W p l e rm_X5_weigh s m args below meth c H locs 0 0 Q (F0 m 23 ls [])) (x4 : Int32) (x5 : Int32) (x10 : Int32) (t1 : Int32) (t2 : Int32) (a_X_quarrel_talks : Nat → Int32) (a_X_quarrel_hers : Nat → Int32) (a_X_quarrel_his : Nat → Int32) (H : Heap) (locs : List Loc) (ls : Array Slot) (hl : lv_has ls 11 [(0, .ref q_X_quarrel), (1, .ref q_p1), (2, .int x2), (3, .int x3), (4, .int x4), (5, .int x5), (10, .int x10)]) (hP : va_P D vwCl (ws_X5_weigh cI cJ cZ cA q_X_quarrel q_p1 q_X_quarrel_talks q_X_quarrel_hers q_X_quarrel_his u_X_quarrel_firstTalk u_X_quarrel_gone a_X_quarrel_talks a_X_quarrel_hers a_p1 a_X_quarrel_his) H) (hD : va_D A (ws_X5_weigh cI cJ cZ cA q_X_quarrel q_p1 q_X_quarrel_talks q_X_quarrel_hers q_X_quarrel_his u_X_quarrel_firstTalk u_X_quarrel_gone a_X_quarrel_talks a_X_quarrel_hers a_p1 a_X_quarrel_his)) (hS : va_S A s.heap H locs), g_X5_weigh_174 a_p1 x2 x3 k23 x4 x5 x10 t1 t2 a_X_quarrel_talks a_X_quarrel_hers a_X_quarrel_his = some o → W p l e rm_X5_weigh s m args below meth c H locs 0 0 Q (F0 m 174 ls [.int t2, .int t1, .ref q_X_quarrel_his]) := by
    intro k23 hk23 x4 x5 x10 t1 t2 a_X_quarrel_talks a_X_quarrel_hers a_X_quarrel_his H locs ls hl hP hD hS hg
    obtain ⟨h7, hg⟩ := zck hg
    refine ziast hx hb hK hP hD hS 4 0 rfl rfl (j := (t1.toNatClampNeg)) h7 rfl dX5_weigh_174 (w2 := (ws_X5_weigh cI cJ cZ cA q_X_quarrel q_p1 q_X_quarrel_talks q_X_quarrel_hers q_X_quarrel_his u_X_quarrel_firstTalk u_X_quarrel_gone a_X_quarrel_talks a_X_quarrel_hers a_p1 (upd a_X_quarrel_his (t1.toNatClampNeg) t2))) rfl (fun H locs hP hD hS => ?_)
    refine lv_iload hx hb dX5_weigh_175 (lv_at hl 6 rfl) ?_
    refine lv_if_eq (tgt := 193) hx hb dX5_weigh_177 (by decide) (fun h177 => ?_) (fun h177 => ?_)
    · have hg := zp hg h177
      exact B193 k23 hk23 x4 x5 a_X_quarrel_talks a_X_quarrel_hers (upd a_X_quarrel_his (t1.toNatClampNeg) t2) _ _ _ (lv_sub hl [0, 1, 2, 3, 4, 5] rfl) hP hD hS hg
    · have hg := zn hg h177
      refine lv_aload_n hx hb dX5_weigh_180 rfl (lv_at hl 0 rfl) ?_
      refine zget (C := RX5) (T := TX5) (N := 5) S hK hP 0 rfl rfl 2 (Nat.le_of_ble_eq_true rfl) zf_5 zw_61 rfl dX5_weigh_181 ?_
      refine lv_iload_n hx hb dX5_weigh_184 rfl (lv_at hl 2 rfl) ?_
      refine lv_dup2_11 hx hb dX5_weigh_185 rfl rfl ?_
      obtain ⟨h8, hg⟩ := zck hg
      refine ziald hx hb hK hP 1 0 rfl rfl (j := (x2.toNatClampNeg)) h8 rfl dX5_weigh_186 ?_
      refine lv_iconst (v := 1) hx hb dX5_weigh_187 (by decide) ?_
      refine lv_iload hx hb dX5_weigh_188 (lv_at hl 5 rfl) ?_
      refine lv_ishl hx hb dX5_weigh_190 ?_
      refine lv_ior hx hb dX5_weigh_191 ?_
      obtain ⟨h9, hg⟩ := zck hg
      refine ziast hx hb hK hP hD hS 1 0 rfl rfl (j := (x2.toNatClampNeg)) h9 rfl dX5_weigh_192 (w2 := (ws_X5_weigh cI cJ cZ cA q_X_quarrel q_p1 q_X_quarrel_talks q_X_quarrel_hers q_X_quarrel_his u_X_quarrel_firstTalk u_X_quarrel_gone (upd a_X_quarrel_talks (x2.toNatClampNeg) ((a_X_quarrel_talks (x2.toNatClampNeg)) ||| (1 <<< (x5 &&& 31)))) a_X_quarrel_hers a_p1 (upd a_X_quarrel_his (t1.toNatClampNeg) t2))) rfl (fun H locs hP hD hS => ?_)
      exact B193 k23 hk23 x4 x5 (upd a_X_quarrel_talks (x2.toNatClampNeg) ((a_X_quarrel_talks (x2.toNatClampNeg)) ||| (1 <<< (x5 &&& 31)))) a_X_quarrel_hers (upd a_X_quarrel_his (t1.toNatClampNeg) t2) _ _ _ (lv_sub hl [0, 1, 2, 3, 4, 5] rfl) hP hD hS hg
  have B155 : ∀ (k23 : Int32 → Int32 → (Nat → Int32) → (Nat → Int32) → (Nat → Int32) → Option ((Nat → Int32) × (Nat → Int32) × (Nat → Int32))) (hk23 : ∀ (x4 : Int32) (x5 : Int32) (a_X_quarrel_talks : Nat → Int32) (a_X_quarrel_hers : Nat → Int32) (a_X_quarrel_his : Nat → Int32) (H : Heap) (locs : List Loc) (ls : Array Slot) (hl : lv_has ls 11 [(0, .ref q_X_quarrel), (1, .ref q_p1), (2, .int x2), (3, .int x3), (4, .int x4), (5, .int x5)]) (hP : va_P D vwCl (ws_X5_weigh cI cJ cZ cA q_X_quarrel q_p1 q_X_quarrel_talks q_X_quarrel_hers q_X_quarrel_his u_X_quarrel_firstTalk u_X_quarrel_gone a_X_quarrel_talks a_X_quarrel_hers a_p1 a_X_quarrel_his) H) (hD : va_D A (ws_X5_weigh cI cJ cZ cA q_X_quarrel q_p1 q_X_quarrel_talks q_X_quarrel_hers q_X_quarrel_his u_X_quarrel_firstTalk u_X_quarrel_gone a_X_quarrel_talks a_X_quarrel_hers a_p1 a_X_quarrel_his)) (hS : va_S A s.heap H locs), k23 x4 x5 a_X_quarrel_talks a_X_quarrel_hers a_X_quarrel_his = some o → W p l e rm_X5_weigh s m args below meth c H locs 0 0 Q (F0 m 23 ls [])) (x4 : Int32) (x5 : Int32) (x7 : Int32) (x9 : Int32) (x10 : Int32) (t1 : Int32) (t2 : Int32) (a_X_quarrel_talks : Nat → Int32) (a_X_quarrel_hers : Nat → Int32) (a_X_quarrel_his : Nat → Int32) (H : Heap) (locs : List Loc) (ls : Array Slot) (hl : lv_has ls 11 [(0, .ref q_X_quarrel), (1, .ref q_p1), (2, .int x2), (3, .int x3), (4, .int x4), (5, .int x5), (7, .int x7), (9, .int x9), (10, .int x10)]) (hP : va_P D vwCl (ws_X5_weigh cI cJ cZ cA q_X_quarrel q_p1 q_X_quarrel_talks q_X_quarrel_hers q_X_quarrel_his u_X_quarrel_firstTalk u_X_quarrel_gone a_X_quarrel_talks a_X_quarrel_hers a_p1 a_X_quarrel_his) H) (hD : va_D A (ws_X5_weigh cI cJ cZ cA q_X_quarrel q_p1 q_X_quarrel_talks q_X_quarrel_hers q_X_quarrel_his u_X_quarrel_firstTalk u_X_quarrel_gone a_X_quarrel_talks a_X_quarrel_hers a_p1 a_X_quarrel_his)) (hS : va_S A s.heap H locs), g_X5_weigh_155 a_p1 x2 x3 k23 x4 x5 x7 x9 x10 t1 t2 a_X_quarrel_talks a_X_quarrel_hers a_X_quarrel_his = some o → W p l e rm_X5_weigh s m args below meth c H locs 0 0 Q (F0 m 155 ls [.int t2, .int t1, .ref q_X_quarrel_hers]) := by
    intro k23 hk23 x4 x5 x7 x9 x10 t1 t2 a_X_quarrel_talks a_X_quarrel_hers a_X_quarrel_his H locs ls hl hP hD hS hg
    obtain ⟨h6, hg⟩ := zck hg
    refine ziast hx hb hK hP hD hS 2 0 rfl rfl (j := (t1.toNatClampNeg)) h6 rfl dX5_weigh_155 (w2 := (ws_X5_weigh cI cJ cZ cA q_X_quarrel q_p1 q_X_quarrel_talks q_X_quarrel_hers q_X_quarrel_his u_X_quarrel_firstTalk u_X_quarrel_gone a_X_quarrel_talks (upd a_X_quarrel_hers (t1.toNatClampNeg) t2) a_p1 a_X_quarrel_his)) rfl (fun H locs hP hD hS => ?_)
    refine lv_aload_n hx hb dX5_weigh_156 rfl (lv_at hl 0 rfl) ?_
    refine zget (C := RX5) (T := TX5) (N := 5) S hK hP 0 rfl rfl 1 (Nat.le_of_ble_eq_true rfl) zf_5 zw_60 rfl dX5_weigh_157 ?_
    refine lv_iload hx hb dX5_weigh_160 (lv_at hl 5 rfl) ?_
    refine lv_iload hx hb dX5_weigh_162 (lv_at hl 8 rfl) ?_
    refine lv_if_eq (tgt := 172) hx hb dX5_weigh_164 (by decide) (fun h164 => ?_) (fun h164 => ?_)
    · have hg := zp hg h164
      refine lv_iload hx hb dX5_weigh_172 (lv_at hl 6 rfl) ?_
      exact B174 k23 hk23 x4 x5 x10 x5 x7 a_X_quarrel_talks (upd a_X_quarrel_hers (t1.toNatClampNeg) t2) a_X_quarrel_his _ _ _ (lv_sub hl [0, 1, 2, 3, 4, 5, 8] rfl) hP hD hS hg
    · have hg := zn hg h164
      refine lv_iload hx hb dX5_weigh_167 (lv_at hl 7 rfl) ?_
      refine lv_goto (tgt := 174) hx hb dX5_weigh_169 (by decide) ?_
      exact B174 k23 hk23 x4 x5 x10 x5 x9 a_X_quarrel_talks (upd a_X_quarrel_hers (t1.toNatClampNeg) t2) a_X_quarrel_his _ _ _ (lv_sub hl [0, 1, 2, 3, 4, 5, 8] rfl) hP hD hS hg
  have B135 : ∀ (k23 : Int32 → Int32 → (Nat → Int32) → (Nat → Int32) → (Nat → Int32) → Option ((Nat → Int32) × (Nat → Int32) × (Nat → Int32))) (hk23 : ∀ (x4 : Int32) (x5 : Int32) (a_X_quarrel_talks : Nat → Int32) (a_X_quarrel_hers : Nat → Int32) (a_X_quarrel_his : Nat → Int32) (H : Heap) (locs : List Loc) (ls : Array Slot) (hl : lv_has ls 11 [(0, .ref q_X_quarrel), (1, .ref q_p1), (2, .int x2), (3, .int x3), (4, .int x4), (5, .int x5)]) (hP : va_P D vwCl (ws_X5_weigh cI cJ cZ cA q_X_quarrel q_p1 q_X_quarrel_talks q_X_quarrel_hers q_X_quarrel_his u_X_quarrel_firstTalk u_X_quarrel_gone a_X_quarrel_talks a_X_quarrel_hers a_p1 a_X_quarrel_his) H) (hD : va_D A (ws_X5_weigh cI cJ cZ cA q_X_quarrel q_p1 q_X_quarrel_talks q_X_quarrel_hers q_X_quarrel_his u_X_quarrel_firstTalk u_X_quarrel_gone a_X_quarrel_talks a_X_quarrel_hers a_p1 a_X_quarrel_his)) (hS : va_S A s.heap H locs), k23 x4 x5 a_X_quarrel_talks a_X_quarrel_hers a_X_quarrel_his = some o → W p l e rm_X5_weigh s m args below meth c H locs 0 0 Q (F0 m 23 ls [])) (x4 : Int32) (x5 : Int32) (x6 : Int32) (x7 : Int32) (x8 : Int32) (x9 : Int32) (t0 : Int32) (a_X_quarrel_talks : Nat → Int32) (a_X_quarrel_hers : Nat → Int32) (a_X_quarrel_his : Nat → Int32) (H : Heap) (locs : List Loc) (ls : Array Slot) (hl : lv_has ls 11 [(0, .ref q_X_quarrel), (1, .ref q_p1), (2, .int x2), (3, .int x3), (4, .int x4), (5, .int x5), (6, .int x6), (7, .int x7), (8, .int x8), (9, .int x9)]) (hP : va_P D vwCl (ws_X5_weigh cI cJ cZ cA q_X_quarrel q_p1 q_X_quarrel_talks q_X_quarrel_hers q_X_quarrel_his u_X_quarrel_firstTalk u_X_quarrel_gone a_X_quarrel_talks a_X_quarrel_hers a_p1 a_X_quarrel_his) H) (hD : va_D A (ws_X5_weigh cI cJ cZ cA q_X_quarrel q_p1 q_X_quarrel_talks q_X_quarrel_hers q_X_quarrel_his u_X_quarrel_firstTalk u_X_quarrel_gone a_X_quarrel_talks a_X_quarrel_hers a_p1 a_X_quarrel_his)) (hS : va_S A s.heap H locs), g_X5_weigh_135 a_p1 x2 x3 k23 x4 x5 x6 x7 x8 x9 t0 a_X_quarrel_talks a_X_quarrel_hers a_X_quarrel_his = some o → W p l e rm_X5_weigh s m args below meth c H locs 0 0 Q (F0 m 135 ls [.int t0]) := by
    intro k23 hk23 x4 x5 x6 x7 x8 x9 t0 a_X_quarrel_talks a_X_quarrel_hers a_X_quarrel_his H locs ls hl hP hD hS hg
    refine lv_istore (lv' := [(10, .int t0), (0, .ref q_X_quarrel), (1, .ref q_p1), (2, .int x2), (3, .int x3), (4, .int x4), (5, .int x5), (6, .int x6), (7, .int x7), (8, .int x8), (9, .int x9)]) hx hb dX5_weigh_135 hl (by decide) rfl (fun ls hl => ?_)
    refine lv_aload_n hx hb dX5_weigh_137 rfl (lv_at hl 1 rfl) ?_
    refine zget (C := RX5) (T := TX5) (N := 5) S hK hP 0 rfl rfl 0 (Nat.le_of_ble_eq_true rfl) zf_5 zw_59 rfl dX5_weigh_138 ?_
    refine lv_iload hx hb dX5_weigh_141 (lv_at hl 6 rfl) ?_
    refine lv_iload hx hb dX5_weigh_143 (lv_at hl 0 rfl) ?_
    refine lv_if_eq (tgt := 153) hx hb dX5_weigh_145 (by decide) (fun h145 => ?_) (fun h145 => ?_)
    · have hg := zp hg h145
      refine lv_iload hx hb dX5_weigh_153 (lv_at hl 7 rfl) ?_
      exact B155 k23 hk23 x4 x5 x7 x9 t0 x5 x6 a_X_quarrel_talks a_X_quarrel_hers a_X_quarrel_his _ _ _ (lv_sub hl [1, 2, 3, 4, 5, 6, 8, 10, 0] rfl) hP hD hS hg
    · have hg := zn hg h145
      refine lv_iload hx hb dX5_weigh_148 (lv_at hl 9 rfl) ?_
      refine lv_goto (tgt := 155) hx hb dX5_weigh_150 (by decide) ?_
      exact B155 k23 hk23 x4 x5 x7 x9 t0 x5 x8 a_X_quarrel_talks a_X_quarrel_hers a_X_quarrel_his _ _ _ (lv_sub hl [1, 2, 3, 4, 5, 6, 8, 10, 0] rfl) hP hD hS hg
  have B100 : ∀ (k23 : Int32 → Int32 → (Nat → Int32) → (Nat → Int32) → (Nat → Int32) → Option ((Nat → Int32) × (Nat → Int32) × (Nat → Int32))) (hk23 : ∀ (x4 : Int32) (x5 : Int32) (a_X_quarrel_talks : Nat → Int32) (a_X_quarrel_hers : Nat → Int32) (a_X_quarrel_his : Nat → Int32) (H : Heap) (locs : List Loc) (ls : Array Slot) (hl : lv_has ls 11 [(0, .ref q_X_quarrel), (1, .ref q_p1), (2, .int x2), (3, .int x3), (4, .int x4), (5, .int x5)]) (hP : va_P D vwCl (ws_X5_weigh cI cJ cZ cA q_X_quarrel q_p1 q_X_quarrel_talks q_X_quarrel_hers q_X_quarrel_his u_X_quarrel_firstTalk u_X_quarrel_gone a_X_quarrel_talks a_X_quarrel_hers a_p1 a_X_quarrel_his) H) (hD : va_D A (ws_X5_weigh cI cJ cZ cA q_X_quarrel q_p1 q_X_quarrel_talks q_X_quarrel_hers q_X_quarrel_his u_X_quarrel_firstTalk u_X_quarrel_gone a_X_quarrel_talks a_X_quarrel_hers a_p1 a_X_quarrel_his)) (hS : va_S A s.heap H locs), k23 x4 x5 a_X_quarrel_talks a_X_quarrel_hers a_X_quarrel_his = some o → W p l e rm_X5_weigh s m args below meth c H locs 0 0 Q (F0 m 23 ls [])) (x4 : Int32) (x5 : Int32) (x6 : Int32) (x7 : Int32) (x8 : Int32) (t0 : Int32) (t1 : Int32) (a_X_quarrel_talks : Nat → Int32) (a_X_quarrel_hers : Nat → Int32) (a_X_quarrel_his : Nat → Int32) (H : Heap) (locs : List Loc) (ls : Array Slot) (hl : lv_has ls 11 [(0, .ref q_X_quarrel), (1, .ref q_p1), (2, .int x2), (3, .int x3), (4, .int x4), (5, .int x5), (6, .int x6), (7, .int x7), (8, .int x8)]) (hP : va_P D vwCl (ws_X5_weigh cI cJ cZ cA q_X_quarrel q_p1 q_X_quarrel_talks q_X_quarrel_hers q_X_quarrel_his u_X_quarrel_firstTalk u_X_quarrel_gone a_X_quarrel_talks a_X_quarrel_hers a_p1 a_X_quarrel_his) H) (hD : va_D A (ws_X5_weigh cI cJ cZ cA q_X_quarrel q_p1 q_X_quarrel_talks q_X_quarrel_hers q_X_quarrel_his u_X_quarrel_firstTalk u_X_quarrel_gone a_X_quarrel_talks a_X_quarrel_hers a_p1 a_X_quarrel_his)) (hS : va_S A s.heap H locs), g_X5_weigh_100 a_p1 x2 x3 k23 x4 x5 x6 x7 x8 t0 t1 a_X_quarrel_talks a_X_quarrel_hers a_X_quarrel_his = some o → W p l e rm_X5_weigh s m args below meth c H locs 0 0 Q (F0 m 100 ls [.int t1, .int t0]) := by
    intro k23 hk23 x4 x5 x6 x7 x8 t0 t1 a_X_quarrel_talks a_X_quarrel_hers a_X_quarrel_his H locs ls hl hP hD hS hg
    refine lv_isub hx hb dX5_weigh_100 ?_
    refine lv_istore (lv' := [(9, .int (t0 - t1)), (0, .ref q_X_quarrel), (1, .ref q_p1), (2, .int x2), (3, .int x3), (4, .int x4), (5, .int x5), (6, .int x6), (7, .int x7), (8, .int x8)]) hx hb dX5_weigh_101 hl (by decide) rfl (fun ls hl => ?_)
    refine lv_iload hx hb dX5_weigh_103 (lv_at hl 5 rfl) ?_
    refine lv_if_eq (tgt := 123) hx hb dX5_weigh_105 (by decide) (fun h105 => ?_) (fun h105 => ?_)
    · have hg := zp hg h105
      refine lv_iload hx hb dX5_weigh_123 (lv_at hl 0 rfl) ?_
      refine lv_iload hx hb dX5_weigh_125 (lv_at hl 8 rfl) ?_
      refine lv_icmp_le (tgt := 134) hx hb dX5_weigh_127 (by decide) (fun h127 => ?_) (fun h127 => ?_)
      · have hg := zp hg h127
        refine lv_iconst (v := 0) hx hb dX5_weigh_134 (by decide) ?_
        exact B135 k23 hk23 x4 x5 x6 x7 x8 (t0 - t1) 0 a_X_quarrel_talks a_X_quarrel_hers a_X_quarrel_his _ _ _ (lv_sub hl [1, 2, 3, 4, 5, 6, 7, 8, 9, 0] rfl) hP hD hS hg
      · have hg := zn hg h127
        refine lv_iconst (v := 1) hx hb dX5_weigh_130 (by decide) ?_
        refine lv_goto (tgt := 135) hx hb dX5_weigh_131 (by decide) ?_
        exact B135 k23 hk23 x4 x5 x6 x7 x8 (t0 - t1) 1 a_X_quarrel_talks a_X_quarrel_hers a_X_quarrel_his _ _ _ (lv_sub hl [1, 2, 3, 4, 5, 6, 7, 8, 9, 0] rfl) hP hD hS hg
    · have hg := zn hg h105
      refine lv_iload hx hb dX5_weigh_108 (lv_at hl 9 rfl) ?_
      refine lv_iload hx hb dX5_weigh_110 (lv_at hl 7 rfl) ?_
      refine lv_icmp_le (tgt := 119) hx hb dX5_weigh_112 (by decide) (fun h112 => ?_) (fun h112 => ?_)
      · have hg := zp hg h112
        refine lv_iconst (v := 0) hx hb dX5_weigh_119 (by decide) ?_
        refine lv_goto (tgt := 135) hx hb dX5_weigh_120 (by decide) ?_
        exact B135 k23 hk23 x4 x5 x6 x7 x8 (t0 - t1) 0 a_X_quarrel_talks a_X_quarrel_hers a_X_quarrel_his _ _ _ (lv_sub hl [1, 2, 3, 4, 5, 6, 7, 8, 9, 0] rfl) hP hD hS hg
      · have hg := zn hg h112
        refine lv_iconst (v := 1) hx hb dX5_weigh_115 (by decide) ?_
        refine lv_goto (tgt := 135) hx hb dX5_weigh_116 (by decide) ?_
        exact B135 k23 hk23 x4 x5 x6 x7 x8 (t0 - t1) 1 a_X_quarrel_talks a_X_quarrel_hers a_X_quarrel_his _ _ _ (lv_sub hl [1, 2, 3, 4, 5, 6, 7, 8, 9, 0] rfl) hP hD hS hg
  have B76 : ∀ (k23 : Int32 → Int32 → (Nat → Int32) → (Nat → Int32) → (Nat → Int32) → Option ((Nat → Int32) × (Nat → Int32) × (Nat → Int32))) (hk23 : ∀ (x4 : Int32) (x5 : Int32) (a_X_quarrel_talks : Nat → Int32) (a_X_quarrel_hers : Nat → Int32) (a_X_quarrel_his : Nat → Int32) (H : Heap) (locs : List Loc) (ls : Array Slot) (hl : lv_has ls 11 [(0, .ref q_X_quarrel), (1, .ref q_p1), (2, .int x2), (3, .int x3), (4, .int x4), (5, .int x5)]) (hP : va_P D vwCl (ws_X5_weigh cI cJ cZ cA q_X_quarrel q_p1 q_X_quarrel_talks q_X_quarrel_hers q_X_quarrel_his u_X_quarrel_firstTalk u_X_quarrel_gone a_X_quarrel_talks a_X_quarrel_hers a_p1 a_X_quarrel_his) H) (hD : va_D A (ws_X5_weigh cI cJ cZ cA q_X_quarrel q_p1 q_X_quarrel_talks q_X_quarrel_hers q_X_quarrel_his u_X_quarrel_firstTalk u_X_quarrel_gone a_X_quarrel_talks a_X_quarrel_hers a_p1 a_X_quarrel_his)) (hS : va_S A s.heap H locs), k23 x4 x5 a_X_quarrel_talks a_X_quarrel_hers a_X_quarrel_his = some o → W p l e rm_X5_weigh s m args below meth c H locs 0 0 Q (F0 m 23 ls [])) (x4 : Int32) (x5 : Int32) (x6 : Int32) (x7 : Int32) (t0 : Int32) (t1 : Int32) (a_X_quarrel_talks : Nat → Int32) (a_X_quarrel_hers : Nat → Int32) (a_X_quarrel_his : Nat → Int32) (H : Heap) (locs : List Loc) (ls : Array Slot) (hl : lv_has ls 11 [(0, .ref q_X_quarrel), (1, .ref q_p1), (2, .int x2), (3, .int x3), (4, .int x4), (5, .int x5), (6, .int x6), (7, .int x7)]) (hP : va_P D vwCl (ws_X5_weigh cI cJ cZ cA q_X_quarrel q_p1 q_X_quarrel_talks q_X_quarrel_hers q_X_quarrel_his u_X_quarrel_firstTalk u_X_quarrel_gone a_X_quarrel_talks a_X_quarrel_hers a_p1 a_X_quarrel_his) H) (hD : va_D A (ws_X5_weigh cI cJ cZ cA q_X_quarrel q_p1 q_X_quarrel_talks q_X_quarrel_hers q_X_quarrel_his u_X_quarrel_firstTalk u_X_quarrel_gone a_X_quarrel_talks a_X_quarrel_hers a_p1 a_X_quarrel_his)) (hS : va_S A s.heap H locs), g_X5_weigh_76 a_p1 x2 x3 k23 x4 x5 x6 x7 t0 t1 a_X_quarrel_talks a_X_quarrel_hers a_X_quarrel_his = some o → W p l e rm_X5_weigh s m args below meth c H locs 0 0 Q (F0 m 76 ls [.int t1, .int t0]) := by
    intro k23 hk23 x4 x5 x6 x7 t0 t1 a_X_quarrel_talks a_X_quarrel_hers a_X_quarrel_his H locs ls hl hP hD hS hg
    refine lv_isub hx hb dX5_weigh_76 ?_
    refine lv_istore (lv' := [(8, .int (t0 - t1)), (0, .ref q_X_quarrel), (1, .ref q_p1), (2, .int x2), (3, .int x3), (4, .int x4), (5, .int x5), (6, .int x6), (7, .int x7)]) hx hb dX5_weigh_77 hl (by decide) rfl (fun ls hl => ?_)
    refine lv_aload_n hx hb dX5_weigh_79 rfl (lv_at hl 1 rfl) ?_
    refine zget (C := RX5) (T := TX5) (N := 5) S hK hP 0 rfl rfl 1 (Nat.le_of_ble_eq_true rfl) zf_5 zw_60 rfl dX5_weigh_80 ?_
    refine lv_iload hx hb dX5_weigh_83 (lv_at hl 6 rfl) ?_
    refine lv_iconst (v := 1) hx hb dX5_weigh_85 (by decide) ?_
    refine lv_iadd hx hb dX5_weigh_86 ?_
    obtain ⟨h5, hg⟩ := zck hg
    refine ziald hx hb hK hP 4 0 rfl rfl (j := ((x5 + 1).toNatClampNeg)) h5 rfl dX5_weigh_87 ?_
    refine lv_iload hx hb dX5_weigh_88 (lv_at hl 5 rfl) ?_
    refine lv_if_eq (tgt := 97) hx hb dX5_weigh_90 (by decide) (fun h90 => ?_) (fun h90 => ?_)
    · have hg := zp hg h90
      refine lv_aload_n hx hb dX5_weigh_97 rfl (lv_at hl 2 rfl) ?_
      refine lv_iconst (v := 4) hx hb dX5_weigh_98 (by decide) ?_
      refine ziald hx hb hK hP 3 0 rfl rfl (j := 4) (zin (by decide)) (by decide) dX5_weigh_99 ?_
      exact B100 k23 hk23 x4 x5 x6 x7 (t0 - t1) (a_X_quarrel_his ((x5 + 1).toNatClampNeg)) (a_p1 4) a_X_quarrel_talks a_X_quarrel_hers a_X_quarrel_his _ _ _ (lv_sub hl [1, 2, 3, 4, 5, 6, 7, 8, 0] rfl) hP hD hS hg
    · have hg := zn hg h90
      refine lv_iconst (v := 0) hx hb dX5_weigh_93 (by decide) ?_
      refine lv_goto (tgt := 100) hx hb dX5_weigh_94 (by decide) ?_
      exact B100 k23 hk23 x4 x5 x6 x7 (t0 - t1) (a_X_quarrel_his ((x5 + 1).toNatClampNeg)) 0 a_X_quarrel_talks a_X_quarrel_hers a_X_quarrel_his _ _ _ (lv_sub hl [1, 2, 3, 4, 5, 6, 7, 8, 0] rfl) hP hD hS hg
  have B23 : ∀  (n : Nat) (x4 : Int32) (x5 : Int32) (a_X_quarrel_talks : Nat → Int32) (a_X_quarrel_hers : Nat → Int32) (a_X_quarrel_his : Nat → Int32) (H : Heap) (locs : List Loc) (ls : Array Slot) (hl : lv_has ls 11 [(0, .ref q_X_quarrel), (1, .ref q_p1), (2, .int x2), (3, .int x3), (4, .int x4), (5, .int x5)]) (hP : va_P D vwCl (ws_X5_weigh cI cJ cZ cA q_X_quarrel q_p1 q_X_quarrel_talks q_X_quarrel_hers q_X_quarrel_his u_X_quarrel_firstTalk u_X_quarrel_gone a_X_quarrel_talks a_X_quarrel_hers a_p1 a_X_quarrel_his) H) (hD : va_D A (ws_X5_weigh cI cJ cZ cA q_X_quarrel q_p1 q_X_quarrel_talks q_X_quarrel_hers q_X_quarrel_his u_X_quarrel_firstTalk u_X_quarrel_gone a_X_quarrel_talks a_X_quarrel_hers a_p1 a_X_quarrel_his)) (hS : va_S A s.heap H locs), g_X5_weigh_23 a_p1 x2 x3 n x4 x5 a_X_quarrel_talks a_X_quarrel_hers a_X_quarrel_his = some o → W p l e rm_X5_weigh s m args below meth c H locs 0 0 Q (F0 m 23 ls []) := by
    intro  n
    induction n with
    | zero => intro x4 x5 a_X_quarrel_talks a_X_quarrel_hers a_X_quarrel_his H locs ls hl hP hD hS hg; exact nomatch (show (none : Option ((Nat → Int32) × (Nat → Int32) × (Nat → Int32))) = some o from hg)
    | succ n ih =>
      intro x4 x5 a_X_quarrel_talks a_X_quarrel_hers a_X_quarrel_his H locs ls hl hP hD hS hg
      have hg : g_X5_weigh_23b a_p1 x2 x3 (g_X5_weigh_23 a_p1 x2 x3 n) x4 x5 a_X_quarrel_talks a_X_quarrel_hers a_X_quarrel_his = some o := hg
      refine lv_iload hx hb dX5_weigh_23 (lv_at hl 5 rfl) ?_
      refine lv_iload_n hx hb dX5_weigh_25 rfl (lv_at hl 3 rfl) ?_
      refine lv_icmp_ge (tgt := 199) hx hb dX5_weigh_26 (by decide) (fun h26 => ?_) (fun h26 => ?_)
      · have hg := zp hg h26
        exact hret a_X_quarrel_talks a_X_quarrel_hers a_X_quarrel_his hg _ _ _ _ hP hS dX5_weigh_199
      · have hg := zn hg h26
        refine lv_aload_n hx hb dX5_weigh_29 rfl (lv_at hl 0 rfl) ?_
        refine zget (C := RX5) (T := TX5) (N := 5) S hK hP 0 rfl rfl 0 (Nat.le_of_ble_eq_true rfl) zf_5 zw_59 rfl dX5_weigh_30 ?_
        refine lv_iload hx hb dX5_weigh_33 (lv_at hl 5 rfl) ?_
        obtain ⟨h2, hg⟩ := zck hg
        refine ziald hx hb hK hP 2 0 rfl rfl (j := (x5.toNatClampNeg)) h2 rfl dX5_weigh_35 ?_
        refine lv_aload_n hx hb dX5_weigh_36 rfl (lv_at hl 1 rfl) ?_
        refine lv_iconst (v := 0) hx hb dX5_weigh_37 (by decide) ?_
        refine ziald hx hb hK hP 3 0 rfl rfl (j := 0) (zin (by decide)) (by decide) dX5_weigh_38 ?_
        refine lv_isub hx hb dX5_weigh_39 ?_
        refine lv_istore (lv' := [(6, .int ((a_X_quarrel_hers (x5.toNatClampNeg)) - (a_p1 0))), (0, .ref q_X_quarrel), (1, .ref q_p1), (2, .int x2), (3, .int x3), (4, .int x4), (5, .int x5)]) hx hb dX5_weigh_40 hl (by decide) rfl (fun ls hl => ?_)
        refine lv_aload_n hx hb dX5_weigh_42 rfl (lv_at hl 1 rfl) ?_
        refine zget (C := RX5) (T := TX5) (N := 5) S hK hP 0 rfl rfl 1 (Nat.le_of_ble_eq_true rfl) zf_5 zw_60 rfl dX5_weigh_43 ?_
        refine lv_iload hx hb dX5_weigh_46 (lv_at hl 6 rfl) ?_
        obtain ⟨h3, hg⟩ := zck hg
        refine ziald hx hb hK hP 4 0 rfl rfl (j := (x5.toNatClampNeg)) h3 rfl dX5_weigh_48 ?_
        refine lv_aload_n hx hb dX5_weigh_49 rfl (lv_at hl 2 rfl) ?_
        refine lv_iconst (v := 1) hx hb dX5_weigh_50 (by decide) ?_
        refine ziald hx hb hK hP 3 0 rfl rfl (j := 1) (zin (by decide)) (by decide) dX5_weigh_51 ?_
        refine lv_isub hx hb dX5_weigh_52 ?_
        refine lv_istore (lv' := [(7, .int ((a_X_quarrel_his (x5.toNatClampNeg)) - (a_p1 1))), (6, .int ((a_X_quarrel_hers (x5.toNatClampNeg)) - (a_p1 0))), (0, .ref q_X_quarrel), (1, .ref q_p1), (2, .int x2), (3, .int x3), (4, .int x4), (5, .int x5)]) hx hb dX5_weigh_53 hl (by decide) rfl (fun ls hl => ?_)
        refine lv_aload_n hx hb dX5_weigh_55 rfl (lv_at hl 2 rfl) ?_
        refine zget (C := RX5) (T := TX5) (N := 5) S hK hP 0 rfl rfl 0 (Nat.le_of_ble_eq_true rfl) zf_5 zw_59 rfl dX5_weigh_56 ?_
        refine lv_iload hx hb dX5_weigh_59 (lv_at hl 7 rfl) ?_
        refine lv_iconst (v := 1) hx hb dX5_weigh_61 (by decide) ?_
        refine lv_iadd hx hb dX5_weigh_62 ?_
        obtain ⟨h4, hg⟩ := zck hg
        refine ziald hx hb hK hP 2 0 rfl rfl (j := ((x5 + 1).toNatClampNeg)) h4 rfl dX5_weigh_63 ?_
        refine lv_iload hx hb dX5_weigh_64 (lv_at hl 6 rfl) ?_
        refine lv_if_eq (tgt := 75) hx hb dX5_weigh_66 (by decide) (fun h66 => ?_) (fun h66 => ?_)
        · have hg := zp hg h66
          refine lv_iconst (v := 0) hx hb dX5_weigh_75 (by decide) ?_
          exact B76 (g_X5_weigh_23 a_p1 x2 x3 n) ih x4 x5 ((a_X_quarrel_hers (x5.toNatClampNeg)) - (a_p1 0)) ((a_X_quarrel_his (x5.toNatClampNeg)) - (a_p1 1)) (a_X_quarrel_hers ((x5 + 1).toNatClampNeg)) 0 a_X_quarrel_talks a_X_quarrel_hers a_X_quarrel_his _ _ _ (lv_sub hl [2, 3, 4, 5, 6, 7, 1, 0] rfl) hP hD hS hg
        · have hg := zn hg h66
          refine lv_aload_n hx hb dX5_weigh_69 rfl (lv_at hl 3 rfl) ?_
          refine lv_iconst (v := 4) hx hb dX5_weigh_70 (by decide) ?_
          refine ziald hx hb hK hP 3 0 rfl rfl (j := 4) (zin (by decide)) (by decide) dX5_weigh_71 ?_
          refine lv_goto (tgt := 76) hx hb dX5_weigh_72 (by decide) ?_
          exact B76 (g_X5_weigh_23 a_p1 x2 x3 n) ih x4 x5 ((a_X_quarrel_hers (x5.toNatClampNeg)) - (a_p1 0)) ((a_X_quarrel_his (x5.toNatClampNeg)) - (a_p1 1)) (a_X_quarrel_hers ((x5 + 1).toNatClampNeg)) (a_p1 4) a_X_quarrel_talks a_X_quarrel_hers a_X_quarrel_his _ _ _ (lv_sub hl [2, 3, 4, 5, 6, 7, 1, 0] rfl) hP hD hS hg
  have B11 : ∀ (t0 : Int32) (a_X_quarrel_talks : Nat → Int32) (a_X_quarrel_hers : Nat → Int32) (a_X_quarrel_his : Nat → Int32) (H : Heap) (locs : List Loc) (ls : Array Slot) (hl : lv_has ls 11 [(0, .ref q_X_quarrel), (1, .ref q_p1), (2, .int x2), (3, .int x3)]) (hP : va_P D vwCl (ws_X5_weigh cI cJ cZ cA q_X_quarrel q_p1 q_X_quarrel_talks q_X_quarrel_hers q_X_quarrel_his u_X_quarrel_firstTalk u_X_quarrel_gone a_X_quarrel_talks a_X_quarrel_hers a_p1 a_X_quarrel_his) H) (hD : va_D A (ws_X5_weigh cI cJ cZ cA q_X_quarrel q_p1 q_X_quarrel_talks q_X_quarrel_hers q_X_quarrel_his u_X_quarrel_firstTalk u_X_quarrel_gone a_X_quarrel_talks a_X_quarrel_hers a_p1 a_X_quarrel_his)) (hS : va_S A s.heap H locs), g_X5_weigh_11 a_p1 x2 x3 t0 a_X_quarrel_talks a_X_quarrel_hers a_X_quarrel_his = some o → W p l e rm_X5_weigh s m args below meth c H locs 0 0 Q (F0 m 11 ls [.int t0]) := by
    intro  t0 a_X_quarrel_talks a_X_quarrel_hers a_X_quarrel_his H locs ls hl hP hD hS hg
    refine lv_istore (lv' := [(4, .int t0), (0, .ref q_X_quarrel), (1, .ref q_p1), (2, .int x2), (3, .int x3)]) hx hb dX5_weigh_11 hl (by decide) rfl (fun ls hl => ?_)
    refine lv_aload_n hx hb dX5_weigh_13 rfl (lv_at hl 1 rfl) ?_
    refine zget (C := RX5) (T := TX5) (N := 5) S hK hP 0 rfl rfl 2 (Nat.le_of_ble_eq_true rfl) zf_5 zw_61 rfl dX5_weigh_14 ?_
    refine lv_iload_n hx hb dX5_weigh_17 rfl (lv_at hl 3 rfl) ?_
    refine lv_iconst (v := 0) hx hb dX5_weigh_18 (by decide) ?_
    obtain ⟨h1, hg⟩ := zck hg
    refine ziast hx hb hK hP hD hS 1 0 rfl rfl (j := (x2.toNatClampNeg)) h1 rfl dX5_weigh_19 (w2 := (ws_X5_weigh cI cJ cZ cA q_X_quarrel q_p1 q_X_quarrel_talks q_X_quarrel_hers q_X_quarrel_his u_X_quarrel_firstTalk u_X_quarrel_gone (upd a_X_quarrel_talks (x2.toNatClampNeg) 0) a_X_quarrel_hers a_p1 a_X_quarrel_his)) rfl (fun H locs hP hD hS => ?_)
    refine lv_iconst (v := 0) hx hb dX5_weigh_20 (by decide) ?_
    refine lv_istore (lv' := [(5, .int 0), (4, .int t0), (0, .ref q_X_quarrel), (1, .ref q_p1), (2, .int x2), (3, .int x3)]) hx hb dX5_weigh_21 hl (by decide) rfl (fun ls hl => ?_)
    exact B23 zF t0 0 (upd a_X_quarrel_talks (x2.toNatClampNeg) 0) a_X_quarrel_hers a_X_quarrel_his _ _ _ (lv_sub hl [2, 3, 4, 5, 1, 0] rfl) hP hD hS hg
  refine lv_iload_n hx hb dX5_weigh_0 rfl (lv_at hl 2 rfl) ?_
  refine lv_iconst (v := 2) hx hb dX5_weigh_1 (by decide) ?_
  refine lv_irem hx hb dX5_weigh_2 (by decide) ?_
  refine lv_if_ne (tgt := 10) hx hb dX5_weigh_3 (by decide) (fun h3 => ?_) (fun h3 => ?_)
  · have hg := zn hg h3
    refine lv_iconst (v := 0) hx hb dX5_weigh_10 (by decide) ?_
    exact B11 0 a_X_quarrel_talks a_X_quarrel_hers a_X_quarrel_his _ _ _ hl hP hD hS hg
  · have hg := zp hg h3
    refine lv_iconst (v := 1) hx hb dX5_weigh_6 (by decide) ?_
    refine lv_goto (tgt := 11) hx hb dX5_weigh_7 (by decide) ?_
    exact B11 1 a_X_quarrel_talks a_X_quarrel_hers a_X_quarrel_his _ _ _ hl hP hD hS hg

