/-! SpokenClock$Reader.readItems()I -/
abbrev ws_X6_readItems (cI cJ cZ cA : ClassId) (q_X_reader q_X_text q_X_text_cells q_X_draft q_X_reader_numbers q_X_draft_talks q_X_draft_talks_cells q_X_draft_dues q_X_draft_dues_cells q_X_draft_sights q_X_draft_sights_cells q_X_draft_people q_X_draft_people_cells q_X_draft_settings : Nat) (u_X_draft_rule : Value) (u_X_draft_stake : Value) (N_X_text_cells : Nat) (N_X_draft_talks_cells : Nat) (N_X_draft_dues_cells : Nat) (N_X_draft_sights_cells : Nat) (N_X_draft_people_cells : Nat) (v_X_reader_place : Int32) (v_X_reader_token : Int32) (v_X_reader_first : Int32) (v_X_reader_number : Int32) (v_X_text_width : Int32) (v_X_text_limit : Int32) (v_X_text_size : Int32) (a_X_text_cells : Nat → Int32) (a_X_reader_numbers : Nat → Int32) (v_X_draft_talks_width : Int32) (v_X_draft_talks_limit : Int32) (v_X_draft_talks_size : Int32) (a_X_draft_talks_cells : Nat → Int32) (v_X_draft_dues_width : Int32) (v_X_draft_dues_limit : Int32) (v_X_draft_dues_size : Int32) (a_X_draft_dues_cells : Nat → Int32) (v_X_draft_sights_width : Int32) (v_X_draft_sights_limit : Int32) (v_X_draft_sights_size : Int32) (a_X_draft_sights_cells : Nat → Int32) (v_X_draft_people_width : Int32) (v_X_draft_people_limit : Int32) (v_X_draft_people_size : Int32) (a_X_draft_people_cells : Nat → Int32) (a_X_draft_settings : Nat → Int32) : va_W := [(q_X_reader, .inr (6, [.ref q_X_text, .ref q_X_draft, .ref q_X_reader_numbers, .int v_X_reader_place, .int v_X_reader_token, .int v_X_reader_first, .int v_X_reader_number])), (q_X_text, .inr (7, [.int v_X_text_width, .int v_X_text_limit, .ref q_X_text_cells, .int v_X_text_size])), (q_X_text_cells, .inl (cI, N_X_text_cells, .inl a_X_text_cells)), (q_X_draft, .inr (9, [.ref q_X_draft_people, .ref q_X_draft_talks, .ref q_X_draft_dues, .ref q_X_draft_sights, u_X_draft_rule, .ref q_X_draft_settings, u_X_draft_stake])), (q_X_reader_numbers, .inl (cI, 3, .inl a_X_reader_numbers)), (q_X_draft_talks, .inr (7, [.int v_X_draft_talks_width, .int v_X_draft_talks_limit, .ref q_X_draft_talks_cells, .int v_X_draft_talks_size])), (q_X_draft_talks_cells, .inl (cI, N_X_draft_talks_cells, .inl a_X_draft_talks_cells)), (q_X_draft_dues, .inr (7, [.int v_X_draft_dues_width, .int v_X_draft_dues_limit, .ref q_X_draft_dues_cells, .int v_X_draft_dues_size])), (q_X_draft_dues_cells, .inl (cI, N_X_draft_dues_cells, .inl a_X_draft_dues_cells)), (q_X_draft_sights, .inr (7, [.int v_X_draft_sights_width, .int v_X_draft_sights_limit, .ref q_X_draft_sights_cells, .int v_X_draft_sights_size])), (q_X_draft_sights_cells, .inl (cI, N_X_draft_sights_cells, .inl a_X_draft_sights_cells)), (q_X_draft_people, .inr (7, [.int v_X_draft_people_width, .int v_X_draft_people_limit, .ref q_X_draft_people_cells, .int v_X_draft_people_size])), (q_X_draft_people_cells, .inl (cI, N_X_draft_people_cells, .inl a_X_draft_people_cells)), (q_X_draft_settings, .inl (cI, 3, .inl a_X_draft_settings))]
abbrev rm_X6_readItems : Room := { frames := 7, cells := 0, slots := 0, locals := 152 }
def g_X6_readItems_11b (N_X_text_cells : Nat) (N_X_draft_talks_cells : Nat) (N_X_draft_dues_cells : Nat) (N_X_draft_sights_cells : Nat) (N_X_draft_people_cells : Nat) (v_X_text_width : Int32) (v_X_text_limit : Int32) (v_X_text_size : Int32) (a_X_text_cells : Nat → Int32) (v_X_draft_talks_width : Int32) (v_X_draft_talks_limit : Int32) (v_X_draft_dues_width : Int32) (v_X_draft_dues_limit : Int32) (v_X_draft_sights_width : Int32) (v_X_draft_sights_limit : Int32) (v_X_draft_people_width : Int32) (v_X_draft_people_limit : Int32) (k11 : Int32 → Int32 → Int32 → Int32 → Int32 → (Nat → Int32) → Int32 → (Nat → Int32) → Int32 → (Nat → Int32) → Int32 → (Nat → Int32) → Int32 → (Nat → Int32) → (Nat → Int32) → Option (Int32 × Int32 × Int32 × Int32 × Int32 × (Nat → Int32) × Int32 × (Nat → Int32) × Int32 × (Nat → Int32) × Int32 × (Nat → Int32) × Int32 × (Nat → Int32) × (Nat → Int32))) (x1 : Int32) (v_X_reader_place : Int32) (v_X_reader_token : Int32) (v_X_reader_first : Int32) (v_X_reader_number : Int32) (a_X_reader_numbers : Nat → Int32) (v_X_draft_talks_size : Int32) (a_X_draft_talks_cells : Nat → Int32) (v_X_draft_dues_size : Int32) (a_X_draft_dues_cells : Nat → Int32) (v_X_draft_sights_size : Int32) (a_X_draft_sights_cells : Nat → Int32) (v_X_draft_people_size : Int32) (a_X_draft_people_cells : Nat → Int32) (a_X_draft_settings : Nat → Int32) : Option (Int32 × Int32 × Int32 × Int32 × Int32 × (Nat → Int32) × Int32 × (Nat → Int32) × Int32 × (Nat → Int32) × Int32 × (Nat → Int32) × Int32 × (Nat → Int32) × (Nat → Int32)) :=
  if v_X_reader_token = 0 then (
    some (x1, v_X_reader_place, v_X_reader_token, v_X_reader_first, v_X_reader_number, a_X_reader_numbers, v_X_draft_talks_size, a_X_draft_talks_cells, v_X_draft_dues_size, a_X_draft_dues_cells, v_X_draft_sights_size, a_X_draft_sights_cells, v_X_draft_people_size, a_X_draft_people_cells, a_X_draft_settings)
  ) else (
    (g_X7_limit v_X_text_limit).bind fun v3 =>
    if v3 ≤ x1 then (
      some (x1, v_X_reader_place, v_X_reader_token, v_X_reader_first, v_X_reader_number, a_X_reader_numbers, v_X_draft_talks_size, a_X_draft_talks_cells, v_X_draft_dues_size, a_X_draft_dues_cells, v_X_draft_sights_size, a_X_draft_sights_cells, v_X_draft_people_size, a_X_draft_people_cells, a_X_draft_settings)
    ) else (
      (g_X6_isItem N_X_text_cells N_X_draft_talks_cells N_X_draft_dues_cells N_X_draft_sights_cells N_X_draft_people_cells v_X_text_width v_X_text_size a_X_text_cells v_X_draft_talks_width v_X_draft_talks_limit v_X_draft_dues_width v_X_draft_dues_limit v_X_draft_sights_width v_X_draft_sights_limit v_X_draft_people_width v_X_draft_people_limit v_X_reader_place v_X_reader_token v_X_reader_first v_X_reader_number a_X_reader_numbers v_X_draft_talks_size a_X_draft_talks_cells v_X_draft_dues_size a_X_draft_dues_cells v_X_draft_sights_size a_X_draft_sights_cells v_X_draft_people_size a_X_draft_people_cells a_X_draft_settings).bind fun v5 =>
      if v5.1 = 0 then (
        some ((-10) - v5.2.2.2.1, v5.2.1, v5.2.2.1, v5.2.2.2.1, v5.2.2.2.2.1, v5.2.2.2.2.2.1, v5.2.2.2.2.2.2.1, v5.2.2.2.2.2.2.2.1, v5.2.2.2.2.2.2.2.2.1, v5.2.2.2.2.2.2.2.2.2.1, v5.2.2.2.2.2.2.2.2.2.2.1, v5.2.2.2.2.2.2.2.2.2.2.2.1, v5.2.2.2.2.2.2.2.2.2.2.2.2.1, v5.2.2.2.2.2.2.2.2.2.2.2.2.2.1, v5.2.2.2.2.2.2.2.2.2.2.2.2.2.2)
      ) else (
        k11 (x1 + 1) v5.2.1 v5.2.2.1 v5.2.2.2.1 v5.2.2.2.2.1 v5.2.2.2.2.2.1 v5.2.2.2.2.2.2.1 v5.2.2.2.2.2.2.2.1 v5.2.2.2.2.2.2.2.2.1 v5.2.2.2.2.2.2.2.2.2.1 v5.2.2.2.2.2.2.2.2.2.2.1 v5.2.2.2.2.2.2.2.2.2.2.2.1 v5.2.2.2.2.2.2.2.2.2.2.2.2.1 v5.2.2.2.2.2.2.2.2.2.2.2.2.2.1 v5.2.2.2.2.2.2.2.2.2.2.2.2.2.2
      )
    )
  )
def g_X6_readItems_11 (N_X_text_cells : Nat) (N_X_draft_talks_cells : Nat) (N_X_draft_dues_cells : Nat) (N_X_draft_sights_cells : Nat) (N_X_draft_people_cells : Nat) (v_X_text_width : Int32) (v_X_text_limit : Int32) (v_X_text_size : Int32) (a_X_text_cells : Nat → Int32) (v_X_draft_talks_width : Int32) (v_X_draft_talks_limit : Int32) (v_X_draft_dues_width : Int32) (v_X_draft_dues_limit : Int32) (v_X_draft_sights_width : Int32) (v_X_draft_sights_limit : Int32) (v_X_draft_people_width : Int32) (v_X_draft_people_limit : Int32) : Nat → Int32 → Int32 → Int32 → Int32 → Int32 → (Nat → Int32) → Int32 → (Nat → Int32) → Int32 → (Nat → Int32) → Int32 → (Nat → Int32) → Int32 → (Nat → Int32) → (Nat → Int32) → Option (Int32 × Int32 × Int32 × Int32 × Int32 × (Nat → Int32) × Int32 × (Nat → Int32) × Int32 × (Nat → Int32) × Int32 × (Nat → Int32) × Int32 × (Nat → Int32) × (Nat → Int32))
  | 0, _, _, _, _, _, _, _, _, _, _, _, _, _, _, _ => none
  | n + 1, x1, v_X_reader_place, v_X_reader_token, v_X_reader_first, v_X_reader_number, a_X_reader_numbers, v_X_draft_talks_size, a_X_draft_talks_cells, v_X_draft_dues_size, a_X_draft_dues_cells, v_X_draft_sights_size, a_X_draft_sights_cells, v_X_draft_people_size, a_X_draft_people_cells, a_X_draft_settings => g_X6_readItems_11b N_X_text_cells N_X_draft_talks_cells N_X_draft_dues_cells N_X_draft_sights_cells N_X_draft_people_cells v_X_text_width v_X_text_limit v_X_text_size a_X_text_cells v_X_draft_talks_width v_X_draft_talks_limit v_X_draft_dues_width v_X_draft_dues_limit v_X_draft_sights_width v_X_draft_sights_limit v_X_draft_people_width v_X_draft_people_limit (g_X6_readItems_11 N_X_text_cells N_X_draft_talks_cells N_X_draft_dues_cells N_X_draft_sights_cells N_X_draft_people_cells v_X_text_width v_X_text_limit v_X_text_size a_X_text_cells v_X_draft_talks_width v_X_draft_talks_limit v_X_draft_dues_width v_X_draft_dues_limit v_X_draft_sights_width v_X_draft_sights_limit v_X_draft_people_width v_X_draft_people_limit n) x1 v_X_reader_place v_X_reader_token v_X_reader_first v_X_reader_number a_X_reader_numbers v_X_draft_talks_size a_X_draft_talks_cells v_X_draft_dues_size a_X_draft_dues_cells v_X_draft_sights_size a_X_draft_sights_cells v_X_draft_people_size a_X_draft_people_cells a_X_draft_settings
def g_X6_readItems (N_X_text_cells : Nat) (N_X_draft_talks_cells : Nat) (N_X_draft_dues_cells : Nat) (N_X_draft_sights_cells : Nat) (N_X_draft_people_cells : Nat) (v_X_text_width : Int32) (v_X_text_limit : Int32) (v_X_text_size : Int32) (a_X_text_cells : Nat → Int32) (v_X_draft_talks_width : Int32) (v_X_draft_talks_limit : Int32) (v_X_draft_dues_width : Int32) (v_X_draft_dues_limit : Int32) (v_X_draft_sights_width : Int32) (v_X_draft_sights_limit : Int32) (v_X_draft_people_width : Int32) (v_X_draft_people_limit : Int32) (v_X_reader_place : Int32) (v_X_reader_token : Int32) (v_X_reader_first : Int32) (v_X_reader_number : Int32) (a_X_reader_numbers : Nat → Int32) (v_X_draft_talks_size : Int32) (a_X_draft_talks_cells : Nat → Int32) (v_X_draft_dues_size : Int32) (a_X_draft_dues_cells : Nat → Int32) (v_X_draft_sights_size : Int32) (a_X_draft_sights_cells : Nat → Int32) (v_X_draft_people_size : Int32) (a_X_draft_people_cells : Nat → Int32) (a_X_draft_settings : Nat → Int32) : Option (Int32 × Int32 × Int32 × Int32 × Int32 × (Nat → Int32) × Int32 × (Nat → Int32) × Int32 × (Nat → Int32) × Int32 × (Nat → Int32) × Int32 × (Nat → Int32) × (Nat → Int32)) :=
  (g_X6_advance N_X_text_cells v_X_text_width v_X_text_size a_X_text_cells 0 v_X_reader_token v_X_reader_first v_X_reader_number).bind fun v1 =>
  g_X6_readItems_11 N_X_text_cells N_X_draft_talks_cells N_X_draft_dues_cells N_X_draft_sights_cells N_X_draft_people_cells v_X_text_width v_X_text_limit v_X_text_size a_X_text_cells v_X_draft_talks_width v_X_draft_talks_limit v_X_draft_dues_width v_X_draft_dues_limit v_X_draft_sights_width v_X_draft_sights_limit v_X_draft_people_width v_X_draft_people_limit zF 0 v1.1 v1.2.1 v1.2.2.1 v1.2.2.2 a_X_reader_numbers v_X_draft_talks_size a_X_draft_talks_cells v_X_draft_dues_size a_X_draft_dues_cells v_X_draft_sights_size a_X_draft_sights_cells v_X_draft_people_size a_X_draft_people_cells a_X_draft_settings
theorem hd_X6_readItems : yX6_readItems.cls = RX6 ∧ yX6_readItems.cls ≠ "java/lang/invoke/MethodHandle" ∧ yX6_readItems.cls ≠ "java/lang/invoke/VarHandle" ∧ (parseMethodDescriptor yX6_readItems.desc).map (fun d => d.parameters.length) = some 0 := by decide +kernel
set_option maxHeartbeats 4000000 in
set_option maxRecDepth 100000 in
theorem c_X6_readItems (l : Launch) (D : va_G) (cI cJ cZ cA : ClassId) (ga : Nat → Nat) (q_X_reader q_X_text q_X_text_cells q_X_draft q_X_reader_numbers q_X_draft_talks q_X_draft_talks_cells q_X_draft_dues q_X_draft_dues_cells q_X_draft_sights q_X_draft_sights_cells q_X_draft_people q_X_draft_people_cells q_X_draft_settings : Nat) (u_X_draft_rule : Value) (u_X_draft_stake : Value) (N_X_text_cells : Nat) (N_X_draft_talks_cells : Nat) (N_X_draft_dues_cells : Nat) (N_X_draft_sights_cells : Nat) (N_X_draft_people_cells : Nat) (v_X_reader_place : Int32) (v_X_reader_token : Int32) (v_X_reader_first : Int32) (v_X_reader_number : Int32) (v_X_text_width : Int32) (v_X_text_limit : Int32) (v_X_text_size : Int32) (a_X_text_cells : Nat → Int32) (a_X_reader_numbers : Nat → Int32) (v_X_draft_talks_width : Int32) (v_X_draft_talks_limit : Int32) (v_X_draft_talks_size : Int32) (a_X_draft_talks_cells : Nat → Int32) (v_X_draft_dues_width : Int32) (v_X_draft_dues_limit : Int32) (v_X_draft_dues_size : Int32) (a_X_draft_dues_cells : Nat → Int32) (v_X_draft_sights_width : Int32) (v_X_draft_sights_limit : Int32) (v_X_draft_sights_size : Int32) (a_X_draft_sights_cells : Nat → Int32) (v_X_draft_people_width : Int32) (v_X_draft_people_limit : Int32) (v_X_draft_people_size : Int32) (a_X_draft_people_cells : Nat → Int32) (a_X_draft_settings : Nat → Int32) (o : Int32 × Int32 × Int32 × Int32 × Int32 × (Nat → Int32) × Int32 × (Nat → Int32) × Int32 × (Nat → Int32) × Int32 × (Nat → Int32) × Int32 × (Nat → Int32) × (Nat → Int32)) (hg : g_X6_readItems N_X_text_cells N_X_draft_talks_cells N_X_draft_dues_cells N_X_draft_sights_cells N_X_draft_people_cells v_X_text_width v_X_text_limit v_X_text_size a_X_text_cells v_X_draft_talks_width v_X_draft_talks_limit v_X_draft_dues_width v_X_draft_dues_limit v_X_draft_sights_width v_X_draft_sights_limit v_X_draft_people_width v_X_draft_people_limit v_X_reader_place v_X_reader_token v_X_reader_first v_X_reader_number a_X_reader_numbers v_X_draft_talks_size a_X_draft_talks_cells v_X_draft_dues_size a_X_draft_dues_cells v_X_draft_sights_size a_X_draft_sights_cells v_X_draft_people_size a_X_draft_people_cells a_X_draft_settings = some o) : zM l yX6_readItems (Cond.code yX6_readItems cX6_readItems 2 (some .int) :: wsL_law) rm_X6_readItems D (zTy cI cJ cZ cA) ga [.ref q_X_reader] (ws_X6_readItems cI cJ cZ cA q_X_reader q_X_text q_X_text_cells q_X_draft q_X_reader_numbers q_X_draft_talks q_X_draft_talks_cells q_X_draft_dues q_X_draft_dues_cells q_X_draft_sights q_X_draft_sights_cells q_X_draft_people q_X_draft_people_cells q_X_draft_settings u_X_draft_rule u_X_draft_stake N_X_text_cells N_X_draft_talks_cells N_X_draft_dues_cells N_X_draft_sights_cells N_X_draft_people_cells v_X_reader_place v_X_reader_token v_X_reader_first v_X_reader_number v_X_text_width v_X_text_limit v_X_text_size a_X_text_cells a_X_reader_numbers v_X_draft_talks_width v_X_draft_talks_limit v_X_draft_talks_size a_X_draft_talks_cells v_X_draft_dues_width v_X_draft_dues_limit v_X_draft_dues_size a_X_draft_dues_cells v_X_draft_sights_width v_X_draft_sights_limit v_X_draft_sights_size a_X_draft_sights_cells v_X_draft_people_width v_X_draft_people_limit v_X_draft_people_size a_X_draft_people_cells a_X_draft_settings) (ws_X6_readItems cI cJ cZ cA q_X_reader q_X_text q_X_text_cells q_X_draft q_X_reader_numbers q_X_draft_talks q_X_draft_talks_cells q_X_draft_dues q_X_draft_dues_cells q_X_draft_sights q_X_draft_sights_cells q_X_draft_people q_X_draft_people_cells q_X_draft_settings u_X_draft_rule u_X_draft_stake N_X_text_cells N_X_draft_talks_cells N_X_draft_dues_cells N_X_draft_sights_cells N_X_draft_people_cells o.2.1 o.2.2.1 o.2.2.2.1 o.2.2.2.2.1 v_X_text_width v_X_text_limit v_X_text_size a_X_text_cells o.2.2.2.2.2.1 v_X_draft_talks_width v_X_draft_talks_limit o.2.2.2.2.2.2.1 o.2.2.2.2.2.2.2.1 v_X_draft_dues_width v_X_draft_dues_limit o.2.2.2.2.2.2.2.2.1 o.2.2.2.2.2.2.2.2.2.1 v_X_draft_sights_width v_X_draft_sights_limit o.2.2.2.2.2.2.2.2.2.2.1 o.2.2.2.2.2.2.2.2.2.2.2.1 v_X_draft_people_width v_X_draft_people_limit o.2.2.2.2.2.2.2.2.2.2.2.2.1 o.2.2.2.2.2.2.2.2.2.2.2.2.2.1 o.2.2.2.2.2.2.2.2.2.2.2.2.2.2) (some (.int o.1)) := by
  refine zenterI (own := RX6) (by decide) rfl rfl (Nat.le_of_ble_eq_true rfl) ?_
  intro p e s m args below meth c A ls Q S hA hK hG hl hP hD hS hret0
  have hx := S.1
  have hb := S.2.1
  have ht : ∀ w, w ∈ wsL_law → w.before args s = true := fun w h => S.2.2.2.2 w (List.mem_cons_of_mem _ h)
  have hret : ∀ (r9 : Int32) (v_X_reader_place : Int32) (v_X_reader_token : Int32) (v_X_reader_first : Int32) (v_X_reader_number : Int32) (a_X_reader_numbers : Nat → Int32) (v_X_draft_talks_size : Int32) (a_X_draft_talks_cells : Nat → Int32) (v_X_draft_dues_size : Int32) (a_X_draft_dues_cells : Nat → Int32) (v_X_draft_sights_size : Int32) (a_X_draft_sights_cells : Nat → Int32) (v_X_draft_people_size : Int32) (a_X_draft_people_cells : Nat → Int32) (a_X_draft_settings : Nat → Int32), (some (r9, v_X_reader_place, v_X_reader_token, v_X_reader_first, v_X_reader_number, a_X_reader_numbers, v_X_draft_talks_size, a_X_draft_talks_cells, v_X_draft_dues_size, a_X_draft_dues_cells, v_X_draft_sights_size, a_X_draft_sights_cells, v_X_draft_people_size, a_X_draft_people_cells, a_X_draft_settings) : Option (Int32 × Int32 × Int32 × Int32 × Int32 × (Nat → Int32) × Int32 × (Nat → Int32) × Int32 × (Nat → Int32) × Int32 × (Nat → Int32) × Int32 × (Nat → Int32) × (Nat → Int32))) = some o → ∀ (H : Heap) (locs : List Loc) (pc : Nat) (ls : Array Slot), va_P D vwCl (ws_X6_readItems cI cJ cZ cA q_X_reader q_X_text q_X_text_cells q_X_draft q_X_reader_numbers q_X_draft_talks q_X_draft_talks_cells q_X_draft_dues q_X_draft_dues_cells q_X_draft_sights q_X_draft_sights_cells q_X_draft_people q_X_draft_people_cells q_X_draft_settings u_X_draft_rule u_X_draft_stake N_X_text_cells N_X_draft_talks_cells N_X_draft_dues_cells N_X_draft_sights_cells N_X_draft_people_cells v_X_reader_place v_X_reader_token v_X_reader_first v_X_reader_number v_X_text_width v_X_text_limit v_X_text_size a_X_text_cells a_X_reader_numbers v_X_draft_talks_width v_X_draft_talks_limit v_X_draft_talks_size a_X_draft_talks_cells v_X_draft_dues_width v_X_draft_dues_limit v_X_draft_dues_size a_X_draft_dues_cells v_X_draft_sights_width v_X_draft_sights_limit v_X_draft_sights_size a_X_draft_sights_cells v_X_draft_people_width v_X_draft_people_limit v_X_draft_people_size a_X_draft_people_cells a_X_draft_settings) H → va_S A s.heap H locs → decode cX6_readItems pc = .ok (.ireturn, 1) → W p l e rm_X6_readItems s m args below meth c H locs 0 0 Q (F0 m pc ls [.int r9]) := by
    intro r9 v_X_reader_place v_X_reader_token v_X_reader_first v_X_reader_number a_X_reader_numbers v_X_draft_talks_size a_X_draft_talks_cells v_X_draft_dues_size a_X_draft_dues_cells v_X_draft_sights_size a_X_draft_sights_cells v_X_draft_people_size a_X_draft_people_cells a_X_draft_settings he; cases he; exact hret0
  have hl : lv_has ls 2 [(0, .ref q_X_reader)] := hl
  have B11 : ∀  (n : Nat) (x1 : Int32) (v_X_reader_place : Int32) (v_X_reader_token : Int32) (v_X_reader_first : Int32) (v_X_reader_number : Int32) (a_X_reader_numbers : Nat → Int32) (v_X_draft_talks_size : Int32) (a_X_draft_talks_cells : Nat → Int32) (v_X_draft_dues_size : Int32) (a_X_draft_dues_cells : Nat → Int32) (v_X_draft_sights_size : Int32) (a_X_draft_sights_cells : Nat → Int32) (v_X_draft_people_size : Int32) (a_X_draft_people_cells : Nat → Int32) (a_X_draft_settings : Nat → Int32) (H : Heap) (locs : List Loc) (ls : Array Slot) (hl : lv_has ls 2 [(0, .ref q_X_reader), (1, .int x1)]) (hP : va_P D vwCl (ws_X6_readItems cI cJ cZ cA q_X_reader q_X_text q_X_text_cells q_X_draft q_X_reader_numbers q_X_draft_talks q_X_draft_talks_cells q_X_draft_dues q_X_draft_dues_cells q_X_draft_sights q_X_draft_sights_cells q_X_draft_people q_X_draft_people_cells q_X_draft_settings u_X_draft_rule u_X_draft_stake N_X_text_cells N_X_draft_talks_cells N_X_draft_dues_cells N_X_draft_sights_cells N_X_draft_people_cells v_X_reader_place v_X_reader_token v_X_reader_first v_X_reader_number v_X_text_width v_X_text_limit v_X_text_size a_X_text_cells a_X_reader_numbers v_X_draft_talks_width v_X_draft_talks_limit v_X_draft_talks_size a_X_draft_talks_cells v_X_draft_dues_width v_X_draft_dues_limit v_X_draft_dues_size a_X_draft_dues_cells v_X_draft_sights_width v_X_draft_sights_limit v_X_draft_sights_size a_X_draft_sights_cells v_X_draft_people_width v_X_draft_people_limit v_X_draft_people_size a_X_draft_people_cells a_X_draft_settings) H) (hD : va_D A (ws_X6_readItems cI cJ cZ cA q_X_reader q_X_text q_X_text_cells q_X_draft q_X_reader_numbers q_X_draft_talks q_X_draft_talks_cells q_X_draft_dues q_X_draft_dues_cells q_X_draft_sights q_X_draft_sights_cells q_X_draft_people q_X_draft_people_cells q_X_draft_settings u_X_draft_rule u_X_draft_stake N_X_text_cells N_X_draft_talks_cells N_X_draft_dues_cells N_X_draft_sights_cells N_X_draft_people_cells v_X_reader_place v_X_reader_token v_X_reader_first v_X_reader_number v_X_text_width v_X_text_limit v_X_text_size a_X_text_cells a_X_reader_numbers v_X_draft_talks_width v_X_draft_talks_limit v_X_draft_talks_size a_X_draft_talks_cells v_X_draft_dues_width v_X_draft_dues_limit v_X_draft_dues_size a_X_draft_dues_cells v_X_draft_sights_width v_X_draft_sights_limit v_X_draft_sights_size a_X_draft_sights_cells v_X_draft_people_width v_X_draft_people_limit v_X_draft_people_size a_X_draft_people_cells a_X_draft_settings)) (hS : va_S A s.heap H locs), g_X6_readItems_11 N_X_text_cells N_X_draft_talks_cells N_X_draft_dues_cells N_X_draft_sights_cells N_X_draft_people_cells v_X_text_width v_X_text_limit v_X_text_size a_X_text_cells v_X_draft_talks_width v_X_draft_talks_limit v_X_draft_dues_width v_X_draft_dues_limit v_X_draft_sights_width v_X_draft_sights_limit v_X_draft_people_width v_X_draft_people_limit n x1 v_X_reader_place v_X_reader_token v_X_reader_first v_X_reader_number a_X_reader_numbers v_X_draft_talks_size a_X_draft_talks_cells v_X_draft_dues_size a_X_draft_dues_cells v_X_draft_sights_size a_X_draft_sights_cells v_X_draft_people_size a_X_draft_people_cells a_X_draft_settings = some o → W p l e rm_X6_readItems s m args below meth c H locs 0 0 Q (F0 m 11 ls []) := by
    intro  n
    induction n with
    | zero => intro x1 v_X_reader_place v_X_reader_token v_X_reader_first v_X_reader_number a_X_reader_numbers v_X_draft_talks_size a_X_draft_talks_cells v_X_draft_dues_size a_X_draft_dues_cells v_X_draft_sights_size a_X_draft_sights_cells v_X_draft_people_size a_X_draft_people_cells a_X_draft_settings H locs ls hl hP hD hS hg; exact nomatch (show (none : Option (Int32 × Int32 × Int32 × Int32 × Int32 × (Nat → Int32) × Int32 × (Nat → Int32) × Int32 × (Nat → Int32) × Int32 × (Nat → Int32) × Int32 × (Nat → Int32) × (Nat → Int32))) = some o from hg)
    | succ n ih =>
      intro x1 v_X_reader_place v_X_reader_token v_X_reader_first v_X_reader_number a_X_reader_numbers v_X_draft_talks_size a_X_draft_talks_cells v_X_draft_dues_size a_X_draft_dues_cells v_X_draft_sights_size a_X_draft_sights_cells v_X_draft_people_size a_X_draft_people_cells a_X_draft_settings H locs ls hl hP hD hS hg
      have hg : g_X6_readItems_11b N_X_text_cells N_X_draft_talks_cells N_X_draft_dues_cells N_X_draft_sights_cells N_X_draft_people_cells v_X_text_width v_X_text_limit v_X_text_size a_X_text_cells v_X_draft_talks_width v_X_draft_talks_limit v_X_draft_dues_width v_X_draft_dues_limit v_X_draft_sights_width v_X_draft_sights_limit v_X_draft_people_width v_X_draft_people_limit (g_X6_readItems_11 N_X_text_cells N_X_draft_talks_cells N_X_draft_dues_cells N_X_draft_sights_cells N_X_draft_people_cells v_X_text_width v_X_text_limit v_X_text_size a_X_text_cells v_X_draft_talks_width v_X_draft_talks_limit v_X_draft_dues_width v_X_draft_dues_limit v_X_draft_sights_width v_X_draft_sights_limit v_X_draft_people_width v_X_draft_people_limit n) x1 v_X_reader_place v_X_reader_token v_X_reader_first v_X_reader_number a_X_reader_numbers v_X_draft_talks_size a_X_draft_talks_cells v_X_draft_dues_size a_X_draft_dues_cells v_X_draft_sights_size a_X_draft_sights_cells v_X_draft_people_size a_X_draft_people_cells a_X_draft_settings = some o := hg
      refine lv_aload_n hx hb dX6_readItems_11 rfl (lv_at hl 0 rfl) ?_
      refine zget (C := RX6) (T := TX6) (N := 7) S hK hP 0 rfl rfl 4 (Nat.le_of_ble_eq_true rfl) zf_6 zw_345 rfl dX6_readItems_12 ?_
      refine lv_if_eq (tgt := 50) hx hb dX6_readItems_15 (by decide) (fun h15 => ?_) (fun h15 => ?_)
      · have hg := zp hg h15
        refine lv_iload_n hx hb dX6_readItems_50 rfl (lv_at hl 1 rfl) ?_
        exact hret x1 v_X_reader_place v_X_reader_token v_X_reader_first v_X_reader_number a_X_reader_numbers v_X_draft_talks_size a_X_draft_talks_cells v_X_draft_dues_size a_X_draft_dues_cells v_X_draft_sights_size a_X_draft_sights_cells v_X_draft_people_size a_X_draft_people_cells a_X_draft_settings hg _ _ _ _ hP hS dX6_readItems_51
      · have hg := zn hg h15
        refine lv_iload_n hx hb dX6_readItems_18 rfl (lv_at hl 1 rfl) ?_
        refine lv_aload_n hx hb dX6_readItems_19 rfl (lv_at hl 0 rfl) ?_
        refine zget (C := RX6) (T := TX6) (N := 7) S hK hP 0 rfl rfl 0 (Nat.le_of_ble_eq_true rfl) zf_6 zw_127 rfl dX6_readItems_20 ?_
        obtain ⟨v3, hc4, hg⟩ := zbd hg
        refine zcallV (rest := [.int x1]) S (c_X7_limit l D cI cJ cZ cA ga q_X_text (.int v_X_text_width) (.ref q_X_text_cells) (.int v_X_text_size) v_X_text_limit v3 hc4) (zgV zw_371 zw_300 zw_301 zw_32 zw_302) rfl hd_X7_limit ⟨rfl, rfl⟩ ⟨Nat.le_of_ble_eq_true rfl, Nat.le_of_ble_eq_true rfl⟩ 1 7 rfl rfl rfl hl.1 rfl (Nat.le_of_ble_eq_true rfl) dX6_readItems_23 hP hD hS hA hK hG (isC := [1]) rfl rfl rfl (w2 := (ws_X6_readItems cI cJ cZ cA q_X_reader q_X_text q_X_text_cells q_X_draft q_X_reader_numbers q_X_draft_talks q_X_draft_talks_cells q_X_draft_dues q_X_draft_dues_cells q_X_draft_sights q_X_draft_sights_cells q_X_draft_people q_X_draft_people_cells q_X_draft_settings u_X_draft_rule u_X_draft_stake N_X_text_cells N_X_draft_talks_cells N_X_draft_dues_cells N_X_draft_sights_cells N_X_draft_people_cells v_X_reader_place v_X_reader_token v_X_reader_first v_X_reader_number v_X_text_width v_X_text_limit v_X_text_size a_X_text_cells a_X_reader_numbers v_X_draft_talks_width v_X_draft_talks_limit v_X_draft_talks_size a_X_draft_talks_cells v_X_draft_dues_width v_X_draft_dues_limit v_X_draft_dues_size a_X_draft_dues_cells v_X_draft_sights_width v_X_draft_sights_limit v_X_draft_sights_size a_X_draft_sights_cells v_X_draft_people_width v_X_draft_people_limit v_X_draft_people_size a_X_draft_people_cells a_X_draft_settings)) rfl (st1 := [.int v3, .int x1]) rfl (fun H locs hP hD hS => ?_)
        refine lv_icmp_ge (tgt := 50) hx hb dX6_readItems_26 (by decide) (fun h26 => ?_) (fun h26 => ?_)
        · have hg := zp hg h26
          refine lv_iload_n hx hb dX6_readItems_50 rfl (lv_at hl 1 rfl) ?_
          exact hret x1 v_X_reader_place v_X_reader_token v_X_reader_first v_X_reader_number a_X_reader_numbers v_X_draft_talks_size a_X_draft_talks_cells v_X_draft_dues_size a_X_draft_dues_cells v_X_draft_sights_size a_X_draft_sights_cells v_X_draft_people_size a_X_draft_people_cells a_X_draft_settings hg _ _ _ _ hP hS dX6_readItems_51
        · have hg := zn hg h26
          refine lv_aload_n hx hb dX6_readItems_29 rfl (lv_at hl 0 rfl) ?_
          obtain ⟨v5, hc6, hg⟩ := zbd hg
          refine zcallV (rest := []) S (c_X6_isItem l D cI cJ cZ cA ga q_X_reader q_X_text q_X_text_cells q_X_draft q_X_reader_numbers q_X_draft_talks q_X_draft_talks_cells q_X_draft_dues q_X_draft_dues_cells q_X_draft_sights q_X_draft_sights_cells q_X_draft_people q_X_draft_people_cells q_X_draft_settings (.int v_X_text_limit) u_X_draft_rule u_X_draft_stake N_X_text_cells N_X_draft_talks_cells N_X_draft_dues_cells N_X_draft_sights_cells N_X_draft_people_cells v_X_reader_place v_X_reader_token v_X_reader_first v_X_reader_number v_X_text_width v_X_text_size a_X_text_cells a_X_reader_numbers v_X_draft_talks_width v_X_draft_talks_limit v_X_draft_talks_size a_X_draft_talks_cells v_X_draft_dues_width v_X_draft_dues_limit v_X_draft_dues_size a_X_draft_dues_cells v_X_draft_sights_width v_X_draft_sights_limit v_X_draft_sights_size a_X_draft_sights_cells v_X_draft_people_width v_X_draft_people_limit v_X_draft_people_size a_X_draft_people_cells a_X_draft_settings v5 hc6) (zgV zw_372 zw_373 zw_374 zw_41 zw_375) rfl hd_X6_isItem ⟨rfl, rfl⟩ ⟨Nat.le_of_ble_eq_true rfl, Nat.le_of_ble_eq_true rfl⟩ 0 6 rfl rfl rfl hl.1 rfl (Nat.le_of_ble_eq_true rfl) dX6_readItems_30 hP hD hS hA hK hG (isC := [0, 1, 2, 3, 4, 5, 6, 7, 8, 9, 10, 11, 12, 13]) rfl rfl rfl (w2 := (ws_X6_readItems cI cJ cZ cA q_X_reader q_X_text q_X_text_cells q_X_draft q_X_reader_numbers q_X_draft_talks q_X_draft_talks_cells q_X_draft_dues q_X_draft_dues_cells q_X_draft_sights q_X_draft_sights_cells q_X_draft_people q_X_draft_people_cells q_X_draft_settings u_X_draft_rule u_X_draft_stake N_X_text_cells N_X_draft_talks_cells N_X_draft_dues_cells N_X_draft_sights_cells N_X_draft_people_cells v5.2.1 v5.2.2.1 v5.2.2.2.1 v5.2.2.2.2.1 v_X_text_width v_X_text_limit v_X_text_size a_X_text_cells v5.2.2.2.2.2.1 v_X_draft_talks_width v_X_draft_talks_limit v5.2.2.2.2.2.2.1 v5.2.2.2.2.2.2.2.1 v_X_draft_dues_width v_X_draft_dues_limit v5.2.2.2.2.2.2.2.2.1 v5.2.2.2.2.2.2.2.2.2.1 v_X_draft_sights_width v_X_draft_sights_limit v5.2.2.2.2.2.2.2.2.2.2.1 v5.2.2.2.2.2.2.2.2.2.2.2.1 v_X_draft_people_width v_X_draft_people_limit v5.2.2.2.2.2.2.2.2.2.2.2.2.1 v5.2.2.2.2.2.2.2.2.2.2.2.2.2.1 v5.2.2.2.2.2.2.2.2.2.2.2.2.2.2)) rfl (st1 := [.int v5.1]) rfl (fun H locs hP hD hS => ?_)
          refine lv_if_ne (tgt := 44) hx hb dX6_readItems_33 (by decide) (fun h33 => ?_) (fun h33 => ?_)
          · have hg := zn hg h33
            refine lv_iinc (k := 1) (v := x1 + 1) (lv' := [(1, .int (x1 + 1)), (0, .ref q_X_reader)]) hx hb dX6_readItems_44 hl rfl (zinc (by decide)) (by decide) rfl (fun ls hl => ?_)
            refine lv_goto (tgt := 11) hx hb dX6_readItems_47 (by decide) ?_
            exact ih (x1 + 1) v5.2.1 v5.2.2.1 v5.2.2.2.1 v5.2.2.2.2.1 v5.2.2.2.2.2.1 v5.2.2.2.2.2.2.1 v5.2.2.2.2.2.2.2.1 v5.2.2.2.2.2.2.2.2.1 v5.2.2.2.2.2.2.2.2.2.1 v5.2.2.2.2.2.2.2.2.2.2.1 v5.2.2.2.2.2.2.2.2.2.2.2.1 v5.2.2.2.2.2.2.2.2.2.2.2.2.1 v5.2.2.2.2.2.2.2.2.2.2.2.2.2.1 v5.2.2.2.2.2.2.2.2.2.2.2.2.2.2 _ _ _ (lv_sub hl [1, 0] rfl) hP hD hS hg
          · have hg := zp hg h33
            refine lv_bipush (v := (-10)) hx hb dX6_readItems_36 (by decide) ?_
            refine lv_aload_n hx hb dX6_readItems_38 rfl (lv_at hl 0 rfl) ?_
            refine zget (C := RX6) (T := TX6) (N := 7) S hK hP 0 rfl rfl 5 (Nat.le_of_ble_eq_true rfl) zf_6 zw_346 rfl dX6_readItems_39 ?_
            refine lv_isub hx hb dX6_readItems_42 ?_
            exact hret ((-10) - v5.2.2.2.1) v5.2.1 v5.2.2.1 v5.2.2.2.1 v5.2.2.2.2.1 v5.2.2.2.2.2.1 v5.2.2.2.2.2.2.1 v5.2.2.2.2.2.2.2.1 v5.2.2.2.2.2.2.2.2.1 v5.2.2.2.2.2.2.2.2.2.1 v5.2.2.2.2.2.2.2.2.2.2.1 v5.2.2.2.2.2.2.2.2.2.2.2.1 v5.2.2.2.2.2.2.2.2.2.2.2.2.1 v5.2.2.2.2.2.2.2.2.2.2.2.2.2.1 v5.2.2.2.2.2.2.2.2.2.2.2.2.2.2 hg _ _ _ _ hP hS dX6_readItems_43
  refine lv_aload_n hx hb dX6_readItems_0 rfl (lv_at hl 0 rfl) ?_
  refine lv_iconst (v := 0) hx hb dX6_readItems_1 (by decide) ?_
  refine zputf (C := RX6) (T := TX6) (N := 7) (ty := .int) S hK hP hD hS 0 rfl rfl 3 (Nat.le_of_ble_eq_true rfl) zf_6 tyX6 tyX6_ok nmX6 zw_344 rfl (by decide +kernel) rfl rfl (Nat.le_of_ble_eq_true rfl) dX6_readItems_2 (w2 := (ws_X6_readItems cI cJ cZ cA q_X_reader q_X_text q_X_text_cells q_X_draft q_X_reader_numbers q_X_draft_talks q_X_draft_talks_cells q_X_draft_dues q_X_draft_dues_cells q_X_draft_sights q_X_draft_sights_cells q_X_draft_people q_X_draft_people_cells q_X_draft_settings u_X_draft_rule u_X_draft_stake N_X_text_cells N_X_draft_talks_cells N_X_draft_dues_cells N_X_draft_sights_cells N_X_draft_people_cells 0 v_X_reader_token v_X_reader_first v_X_reader_number v_X_text_width v_X_text_limit v_X_text_size a_X_text_cells a_X_reader_numbers v_X_draft_talks_width v_X_draft_talks_limit v_X_draft_talks_size a_X_draft_talks_cells v_X_draft_dues_width v_X_draft_dues_limit v_X_draft_dues_size a_X_draft_dues_cells v_X_draft_sights_width v_X_draft_sights_limit v_X_draft_sights_size a_X_draft_sights_cells v_X_draft_people_width v_X_draft_people_limit v_X_draft_people_size a_X_draft_people_cells a_X_draft_settings)) rfl (fun H locs hP hD hS => ?_)
  refine lv_aload_n hx hb dX6_readItems_5 rfl (lv_at hl 0 rfl) ?_
  obtain ⟨v1, hc2, hg⟩ := zbd hg
  refine zcallV (rest := []) S (c_X6_advance l D cI cJ cZ cA ga q_X_reader q_X_text q_X_text_cells (.ref q_X_draft) (.ref q_X_reader_numbers) (.int v_X_text_limit) N_X_text_cells 0 v_X_reader_token v_X_reader_first v_X_reader_number v_X_text_width v_X_text_size a_X_text_cells v1 hc2) (zgV zw_347 zw_348 zw_349 zw_41 zw_350) rfl hd_X6_advance ⟨rfl, rfl⟩ ⟨Nat.le_of_ble_eq_true rfl, Nat.le_of_ble_eq_true rfl⟩ 0 6 rfl rfl rfl hl.1 rfl (Nat.le_of_ble_eq_true rfl) dX6_readItems_6 hP hD hS hA hK hG (isC := [0, 1, 2]) rfl rfl rfl (w2 := (ws_X6_readItems cI cJ cZ cA q_X_reader q_X_text q_X_text_cells q_X_draft q_X_reader_numbers q_X_draft_talks q_X_draft_talks_cells q_X_draft_dues q_X_draft_dues_cells q_X_draft_sights q_X_draft_sights_cells q_X_draft_people q_X_draft_people_cells q_X_draft_settings u_X_draft_rule u_X_draft_stake N_X_text_cells N_X_draft_talks_cells N_X_draft_dues_cells N_X_draft_sights_cells N_X_draft_people_cells v1.1 v1.2.1 v1.2.2.1 v1.2.2.2 v_X_text_width v_X_text_limit v_X_text_size a_X_text_cells a_X_reader_numbers v_X_draft_talks_width v_X_draft_talks_limit v_X_draft_talks_size a_X_draft_talks_cells v_X_draft_dues_width v_X_draft_dues_limit v_X_draft_dues_size a_X_draft_dues_cells v_X_draft_sights_width v_X_draft_sights_limit v_X_draft_sights_size a_X_draft_sights_cells v_X_draft_people_width v_X_draft_people_limit v_X_draft_people_size a_X_draft_people_cells a_X_draft_settings)) rfl (st1 := []) rfl (fun H locs hP hD hS => ?_)
  refine lv_iconst (v := 0) hx hb dX6_readItems_9 (by decide) ?_
  refine lv_istore_n (lv' := [(1, .int 0), (0, .ref q_X_reader)]) hx hb dX6_readItems_10 rfl hl (by decide) rfl (fun ls hl => ?_)
  exact B11 zF 0 v1.1 v1.2.1 v1.2.2.1 v1.2.2.2 a_X_reader_numbers v_X_draft_talks_size a_X_draft_talks_cells v_X_draft_dues_size a_X_draft_dues_cells v_X_draft_sights_size a_X_draft_sights_cells v_X_draft_people_size a_X_draft_people_cells a_X_draft_settings _ _ _ (lv_sub hl [1, 0] rfl) hP hD hS hg

/-! SpokenClock$Rows.copy(LSpokenClock$Rows;)V -/
abbrev ws_X7_copy (cI cJ cZ cA : ClassId) (q_R q_p1 q_p1_cells q_R_cells : Nat) (N_p1_cells : Nat) (N_R_cells : Nat) (v_p1_width : Int32) (v_p1_limit : Int32) (v_p1_size : Int32) (v_R_width : Int32) (v_R_limit : Int32) (v_R_size : Int32) (a_p1_cells : Nat → Int32) (a_R_cells : Nat → Int32) : va_W := [(q_p1, .inr (7, [.int v_p1_width, .int v_p1_limit, .ref q_p1_cells, .int v_p1_size])), (q_R, .inr (7, [.int v_R_width, .int v_R_limit, .ref q_R_cells, .int v_R_size])), (q_p1_cells, .inl (cI, N_p1_cells, .inl a_p1_cells)), (q_R_cells, .inl (cI, N_R_cells, .inl a_R_cells))]
abbrev rm_X7_copy : Room := { frames := 1, cells := 0, slots := 0, locals := 48 }
def g_X7_copy (N_p1_cells : Nat) (N_R_cells : Nat) (v_p1_width : Int32) (v_p1_limit : Int32) (v_p1_size : Int32) (v_R_width : Int32) (v_R_limit : Int32) (a_p1_cells : Nat → Int32) (v_R_size : Int32) (a_R_cells : Nat → Int32) : Option (Int32 × (Nat → Int32)) :=
  if v_p1_width = v_R_width then (
    if v_p1_limit = v_R_limit then (
      if (v_p1_size * v_R_width) < 0 ∨ N_p1_cells < (v_p1_size * v_R_width).toNatClampNeg ∨ N_R_cells < (v_p1_size * v_R_width).toNatClampNeg then none else
      some (v_p1_size, va_cpy a_p1_cells a_R_cells 0 0 (v_p1_size * v_R_width).toNatClampNeg)
    ) else (
      some (v_R_size, a_R_cells)
    )
  ) else (
    some (v_R_size, a_R_cells)
  )
theorem hd_X7_copy : yX7_copy.cls = RX7 ∧ yX7_copy.cls ≠ "java/lang/invoke/MethodHandle" ∧ yX7_copy.cls ≠ "java/lang/invoke/VarHandle" ∧ (parseMethodDescriptor yX7_copy.desc).map (fun d => d.parameters.length) = some 1 := by decide +kernel
set_option maxHeartbeats 4000000 in
set_option maxRecDepth 100000 in
theorem c_X7_copy (l : Launch) (D : va_G) (cI cJ cZ cA : ClassId) (ga : Nat → Nat) (q_R q_p1 q_p1_cells q_R_cells : Nat) (N_p1_cells : Nat) (N_R_cells : Nat) (v_p1_width : Int32) (v_p1_limit : Int32) (v_p1_size : Int32) (v_R_width : Int32) (v_R_limit : Int32) (v_R_size : Int32) (a_p1_cells : Nat → Int32) (a_R_cells : Nat → Int32) (o : Int32 × (Nat → Int32)) (hg : g_X7_copy N_p1_cells N_R_cells v_p1_width v_p1_limit v_p1_size v_R_width v_R_limit a_p1_cells v_R_size a_R_cells = some o) : zM l yX7_copy (Cond.code yX7_copy cX7_copy 2 none :: wsL_law) rm_X7_copy D (zTy cI cJ cZ cA) ga [.ref q_R, .ref q_p1] (ws_X7_copy cI cJ cZ cA q_R q_p1 q_p1_cells q_R_cells N_p1_cells N_R_cells v_p1_width v_p1_limit v_p1_size v_R_width v_R_limit v_R_size a_p1_cells a_R_cells) (ws_X7_copy cI cJ cZ cA q_R q_p1 q_p1_cells q_R_cells N_p1_cells N_R_cells v_p1_width v_p1_limit v_p1_size v_R_width v_R_limit o.1 a_p1_cells o.2) none := by
  refine zenterV (own := RX7) (by decide) rfl rfl (Nat.le_of_ble_eq_true rfl) ?_
  intro p e s m args below meth c A ls Q S hA hK hG hl hP hD hS hret0
  have hx := S.1
  have hb := S.2.1
  have ht : ∀ w, w ∈ wsL_law → w.before args s = true := fun w h => S.2.2.2.2 w (List.mem_cons_of_mem _ h)
  have hret : ∀ (v_R_size : Int32) (a_R_cells : Nat → Int32), (some (v_R_size, a_R_cells) : Option (Int32 × (Nat → Int32))) = some o → ∀ (H : Heap) (locs : List Loc) (pc : Nat) (ls : Array Slot), va_P D vwCl (ws_X7_copy cI cJ cZ cA q_R q_p1 q_p1_cells q_R_cells N_p1_cells N_R_cells v_p1_width v_p1_limit v_p1_size v_R_width v_R_limit v_R_size a_p1_cells a_R_cells) H → va_S A s.heap H locs → decode cX7_copy pc = .ok (.return_, 1) → W p l e rm_X7_copy s m args below meth c H locs 0 0 Q (F0 m pc ls []) := by
    intro v_R_size a_R_cells he; cases he; exact hret0
  have hl : lv_has ls 2 [(0, .ref q_R), (1, .ref q_p1)] := hl
  refine lv_aload_n hx hb dX7_copy_0 rfl (lv_at hl 1 rfl) ?_
  refine lv_ifnull hx hb dX7_copy_1 ?_
  refine lv_aload_n hx hb dX7_copy_4 rfl (lv_at hl 1 rfl) ?_
  refine zget (C := RX7) (T := TX7) (N := 4) S hK hP 0 rfl rfl 0 (Nat.le_of_ble_eq_true rfl) zf_7 zw_98 rfl dX7_copy_5 ?_
  refine lv_aload_n hx hb dX7_copy_8 rfl (lv_at hl 0 rfl) ?_
  refine zget (C := RX7) (T := TX7) (N := 4) S hK hP 1 rfl rfl 0 (Nat.le_of_ble_eq_true rfl) zf_7 zw_98 rfl dX7_copy_9 ?_
  refine lv_icmp_ne (tgt := 26) hx hb dX7_copy_12 (by decide) (fun h12 => ?_) (fun h12 => ?_)
  · have hg := zn hg h12
    exact hret v_R_size a_R_cells hg _ _ _ _ hP hS dX7_copy_26
  · have hg := zp hg h12
    refine lv_aload_n hx hb dX7_copy_15 rfl (lv_at hl 1 rfl) ?_
    refine zget (C := RX7) (T := TX7) (N := 4) S hK hP 0 rfl rfl 1 (Nat.le_of_ble_eq_true rfl) zf_7 zw_99 rfl dX7_copy_16 ?_
    refine lv_aload_n hx hb dX7_copy_19 rfl (lv_at hl 0 rfl) ?_
    refine zget (C := RX7) (T := TX7) (N := 4) S hK hP 1 rfl rfl 1 (Nat.le_of_ble_eq_true rfl) zf_7 zw_99 rfl dX7_copy_20 ?_
    refine lv_icmp_eq (tgt := 27) hx hb dX7_copy_23 (by decide) (fun h23 => ?_) (fun h23 => ?_)
    · have hg := zp hg h23
      refine lv_aload_n hx hb dX7_copy_27 rfl (lv_at hl 0 rfl) ?_
      refine lv_aload_n hx hb dX7_copy_28 rfl (lv_at hl 1 rfl) ?_
      refine zget (C := RX7) (T := TX7) (N := 4) S hK hP 0 rfl rfl 3 (Nat.le_of_ble_eq_true rfl) zf_7 zw_183 rfl dX7_copy_29 ?_
      refine zputf (C := RX7) (T := TX7) (N := 4) (ty := .int) S hK hP hD hS 1 rfl rfl 3 (Nat.le_of_ble_eq_true rfl) zf_7 tyX7 tyX7_ok nmX7 zw_183 rfl (by decide +kernel) rfl rfl (Nat.le_of_ble_eq_true rfl) dX7_copy_32 (w2 := (ws_X7_copy cI cJ cZ cA q_R q_p1 q_p1_cells q_R_cells N_p1_cells N_R_cells v_p1_width v_p1_limit v_p1_size v_R_width v_R_limit v_p1_size a_p1_cells a_R_cells)) rfl (fun H locs hP hD hS => ?_)
      refine lv_aload_n hx hb dX7_copy_35 rfl (lv_at hl 1 rfl) ?_
      refine zget (C := RX7) (T := TX7) (N := 4) S hK hP 0 rfl rfl 2 (Nat.le_of_ble_eq_true rfl) zf_7 zw_100 rfl dX7_copy_36 ?_
      refine lv_iconst (v := 0) hx hb dX7_copy_39 (by decide) ?_
      refine lv_aload_n hx hb dX7_copy_40 rfl (lv_at hl 0 rfl) ?_
      refine zget (C := RX7) (T := TX7) (N := 4) S hK hP 1 rfl rfl 2 (Nat.le_of_ble_eq_true rfl) zf_7 zw_100 rfl dX7_copy_41 ?_
      refine lv_iconst (v := 0) hx hb dX7_copy_44 (by decide) ?_
      refine lv_aload_n hx hb dX7_copy_45 rfl (lv_at hl 0 rfl) ?_
      refine zget (C := RX7) (T := TX7) (N := 4) S hK hP 1 rfl rfl 3 (Nat.le_of_ble_eq_true rfl) zf_7 zw_183 rfl dX7_copy_46 ?_
      refine lv_aload_n hx hb dX7_copy_49 rfl (lv_at hl 0 rfl) ?_
      refine zget (C := RX7) (T := TX7) (N := 4) S hK hP 1 rfl rfl 0 (Nat.le_of_ble_eq_true rfl) zf_7 zw_98 rfl dX7_copy_50 ?_
      refine lv_imul hx hb dX7_copy_53 ?_
      obtain ⟨h1, hg⟩ := zck hg
      refine zcopy S hl.1 zw_334 zw_327 zw_328 zw_329 hK hP hD hS 2 3 0 0 rfl rfl rfl rfl h1 (Nat.le_of_ble_eq_true rfl) (Nat.le_of_ble_eq_true rfl) dX7_copy_54 (w2 := (ws_X7_copy cI cJ cZ cA q_R q_p1 q_p1_cells q_R_cells N_p1_cells N_R_cells v_p1_width v_p1_limit v_p1_size v_R_width v_R_limit v_p1_size a_p1_cells (va_cpy a_p1_cells a_R_cells 0 0 (v_p1_size * v_R_width).toNatClampNeg))) rfl (fun H locs hP hD hS => ?_)
      exact hret v_p1_size (va_cpy a_p1_cells a_R_cells 0 0 (v_p1_size * v_R_width).toNatClampNeg) hg _ _ _ _ hP hS dX7_copy_57
    · have hg := zn hg h23
      exact hret v_R_size a_R_cells hg _ _ _ _ hP hS dX7_copy_26

/-! SpokenClock$State.copy(LSpokenClock$State;)V -/
abbrev ws_X9_copy (cI cJ cZ cA : ClassId) (q_S q_p1 q_S_people q_p1_people q_p1_people_cells q_S_people_cells q_S_talks q_p1_talks q_p1_talks_cells q_S_talks_cells q_S_dues q_p1_dues q_p1_dues_cells q_S_dues_cells q_S_sights q_p1_sights q_p1_sights_cells q_S_sights_cells q_S_rule q_p1_rule q_p1_rule_cells q_S_rule_cells q_p1_settings q_S_settings q_p1_stake q_S_stake : Nat) (N_p1_people_cells : Nat) (N_S_people_cells : Nat) (N_p1_talks_cells : Nat) (N_S_talks_cells : Nat) (N_p1_dues_cells : Nat) (N_S_dues_cells : Nat) (N_p1_sights_cells : Nat) (N_S_sights_cells : Nat) (N_p1_rule_cells : Nat) (N_S_rule_cells : Nat) (v_S_people_width : Int32) (v_S_people_limit : Int32) (v_S_people_size : Int32) (v_p1_people_width : Int32) (v_p1_people_limit : Int32) (v_p1_people_size : Int32) (a_p1_people_cells : Nat → Int32) (a_S_people_cells : Nat → Int32) (v_S_talks_width : Int32) (v_S_talks_limit : Int32) (v_S_talks_size : Int32) (v_p1_talks_width : Int32) (v_p1_talks_limit : Int32) (v_p1_talks_size : Int32) (a_p1_talks_cells : Nat → Int32) (a_S_talks_cells : Nat → Int32) (v_S_dues_width : Int32) (v_S_dues_limit : Int32) (v_S_dues_size : Int32) (v_p1_dues_width : Int32) (v_p1_dues_limit : Int32) (v_p1_dues_size : Int32) (a_p1_dues_cells : Nat → Int32) (a_S_dues_cells : Nat → Int32) (v_S_sights_width : Int32) (v_S_sights_limit : Int32) (v_S_sights_size : Int32) (v_p1_sights_width : Int32) (v_p1_sights_limit : Int32) (v_p1_sights_size : Int32) (a_p1_sights_cells : Nat → Int32) (a_S_sights_cells : Nat → Int32) (v_S_rule_width : Int32) (v_S_rule_limit : Int32) (v_S_rule_size : Int32) (v_p1_rule_width : Int32) (v_p1_rule_limit : Int32) (v_p1_rule_size : Int32) (a_p1_rule_cells : Nat → Int32) (a_S_rule_cells : Nat → Int32) (a_S_settings : Nat → Int32) (a_p1_settings : Nat → Int32) (a_S_stake : Nat → Int32) (a_p1_stake : Nat → Int32) : va_W := [(q_S, .inr (9, [.ref q_S_people, .ref q_S_talks, .ref q_S_dues, .ref q_S_sights, .ref q_S_rule, .ref q_S_settings, .ref q_S_stake])), (q_p1, .inr (9, [.ref q_p1_people, .ref q_p1_talks, .ref q_p1_dues, .ref q_p1_sights, .ref q_p1_rule, .ref q_p1_settings, .ref q_p1_stake])), (q_S_people, .inr (7, [.int v_S_people_width, .int v_S_people_limit, .ref q_S_people_cells, .int v_S_people_size])), (q_p1_people, .inr (7, [.int v_p1_people_width, .int v_p1_people_limit, .ref q_p1_people_cells, .int v_p1_people_size])), (q_p1_people_cells, .inl (cI, N_p1_people_cells, .inl a_p1_people_cells)), (q_S_people_cells, .inl (cI, N_S_people_cells, .inl a_S_people_cells)), (q_S_talks, .inr (7, [.int v_S_talks_width, .int v_S_talks_limit, .ref q_S_talks_cells, .int v_S_talks_size])), (q_p1_talks, .inr (7, [.int v_p1_talks_width, .int v_p1_talks_limit, .ref q_p1_talks_cells, .int v_p1_talks_size])), (q_p1_talks_cells, .inl (cI, N_p1_talks_cells, .inl a_p1_talks_cells)), (q_S_talks_cells, .inl (cI, N_S_talks_cells, .inl a_S_talks_cells)), (q_S_dues, .inr (7, [.int v_S_dues_width, .int v_S_dues_limit, .ref q_S_dues_cells, .int v_S_dues_size])), (q_p1_dues, .inr (7, [.int v_p1_dues_width, .int v_p1_dues_limit, .ref q_p1_dues_cells, .int v_p1_dues_size])), (q_p1_dues_cells, .inl (cI, N_p1_dues_cells, .inl a_p1_dues_cells)), (q_S_dues_cells, .inl (cI, N_S_dues_cells, .inl a_S_dues_cells)), (q_S_sights, .inr (7, [.int v_S_sights_width, .int v_S_sights_limit, .ref q_S_sights_cells, .int v_S_sights_size])), (q_p1_sights, .inr (7, [.int v_p1_sights_width, .int v_p1_sights_limit, .ref q_p1_sights_cells, .int v_p1_sights_size])), (q_p1_sights_cells, .inl (cI, N_p1_sights_cells, .inl a_p1_sights_cells)), (q_S_sights_cells, .inl (cI, N_S_sights_cells, .inl a_S_sights_cells)), (q_S_rule, .inr (7, [.int v_S_rule_width, .int v_S_rule_limit, .ref q_S_rule_cells, .int v_S_rule_size])), (q_p1_rule, .inr (7, [.int v_p1_rule_width, .int v_p1_rule_limit, .ref q_p1_rule_cells, .int v_p1_rule_size])), (q_p1_rule_cells, .inl (cI, N_p1_rule_cells, .inl a_p1_rule_cells)), (q_S_rule_cells, .inl (cI, N_S_rule_cells, .inl a_S_rule_cells)), (q_S_settings, .inl (cI, 3, .inl a_S_settings)), (q_p1_settings, .inl (cI, 3, .inl a_p1_settings)), (q_S_stake, .inl (cI, 5, .inl a_S_stake)), (q_p1_stake, .inl (cI, 5, .inl a_p1_stake))]
abbrev rm_X9_copy : Room := { frames := 2, cells := 0, slots := 0, locals := 69 }
def g_X9_copy (N_p1_people_cells : Nat) (N_S_people_cells : Nat) (N_p1_talks_cells : Nat) (N_S_talks_cells : Nat) (N_p1_dues_cells : Nat) (N_S_dues_cells : Nat) (N_p1_sights_cells : Nat) (N_S_sights_cells : Nat) (N_p1_rule_cells : Nat) (N_S_rule_cells : Nat) (v_S_people_width : Int32) (v_S_people_limit : Int32) (v_p1_people_width : Int32) (v_p1_people_limit : Int32) (v_p1_people_size : Int32) (a_p1_people_cells : Nat → Int32) (v_S_talks_width : Int32) (v_S_talks_limit : Int32) (v_p1_talks_width : Int32) (v_p1_talks_limit : Int32) (v_p1_talks_size : Int32) (a_p1_talks_cells : Nat → Int32) (v_S_dues_width : Int32) (v_S_dues_limit : Int32) (v_p1_dues_width : Int32) (v_p1_dues_limit : Int32) (v_p1_dues_size : Int32) (a_p1_dues_cells : Nat → Int32) (v_S_sights_width : Int32) (v_S_sights_limit : Int32) (v_p1_sights_width : Int32) (v_p1_sights_limit : Int32) (v_p1_sights_size : Int32) (a_p1_sights_cells : Nat → Int32) (v_S_rule_width : Int32) (v_S_rule_limit : Int32) (v_p1_rule_width : Int32) (v_p1_rule_limit : Int32) (v_p1_rule_size : Int32) (a_p1_rule_cells : Nat → Int32) (a_p1_settings : Nat → Int32) (a_p1_stake : Nat → Int32) (v_S_people_size : Int32) (a_S_people_cells : Nat → Int32) (v_S_talks_size : Int32) (a_S_talks_cells : Nat → Int32) (v_S_dues_size : Int32) (a_S_dues_cells : Nat → Int32) (v_S_sights_size : Int32) (a_S_sights_cells : Nat → Int32) (v_S_rule_size : Int32) (a_S_rule_cells : Nat → Int32) (a_S_settings : Nat → Int32) (a_S_stake : Nat → Int32) : Option (Int32 × (Nat → Int32) × Int32 × (Nat → Int32) × Int32 × (Nat → Int32) × Int32 × (Nat → Int32) × Int32 × (Nat → Int32) × (Nat → Int32) × (Nat → Int32)) :=
  (g_X7_copy N_p1_people_cells N_S_people_cells v_p1_people_width v_p1_people_limit v_p1_people_size v_S_people_width v_S_people_limit a_p1_people_cells v_S_people_size a_S_people_cells).bind fun v1 =>
  (g_X7_copy N_p1_talks_cells N_S_talks_cells v_p1_talks_width v_p1_talks_limit v_p1_talks_size v_S_talks_width v_S_talks_limit a_p1_talks_cells v_S_talks_size a_S_talks_cells).bind fun v3 =>
  (g_X7_copy N_p1_dues_cells N_S_dues_cells v_p1_dues_width v_p1_dues_limit v_p1_dues_size v_S_dues_width v_S_dues_limit a_p1_dues_cells v_S_dues_size a_S_dues_cells).bind fun v5 =>
  (g_X7_copy N_p1_sights_cells N_S_sights_cells v_p1_sights_width v_p1_sights_limit v_p1_sights_size v_S_sights_width v_S_sights_limit a_p1_sights_cells v_S_sights_size a_S_sights_cells).bind fun v7 =>
  (g_X7_copy N_p1_rule_cells N_S_rule_cells v_p1_rule_width v_p1_rule_limit v_p1_rule_size v_S_rule_width v_S_rule_limit a_p1_rule_cells v_S_rule_size a_S_rule_cells).bind fun v9 =>
  if (3 : Int32) < 0 ∨ 3 < (3 : Int32).toNatClampNeg ∨ 3 < (3 : Int32).toNatClampNeg then none else
  if (5 : Int32) < 0 ∨ 5 < (5 : Int32).toNatClampNeg ∨ 5 < (5 : Int32).toNatClampNeg then none else
  some (v1.1, v1.2, v3.1, v3.2, v5.1, v5.2, v7.1, v7.2, v9.1, v9.2, va_cpy a_p1_settings a_S_settings 0 0 (3 : Int32).toNatClampNeg, va_cpy a_p1_stake a_S_stake 0 0 (5 : Int32).toNatClampNeg)
theorem hd_X9_copy : yX9_copy.cls = RX9 ∧ yX9_copy.cls ≠ "java/lang/invoke/MethodHandle" ∧ yX9_copy.cls ≠ "java/lang/invoke/VarHandle" ∧ (parseMethodDescriptor yX9_copy.desc).map (fun d => d.parameters.length) = some 1 := by decide +kernel
set_option maxHeartbeats 4000000 in
set_option maxRecDepth 100000 in
theorem c_X9_copy (l : Launch) (D : va_G) (cI cJ cZ cA : ClassId) (ga : Nat → Nat) (q_S q_p1 q_S_people q_p1_people q_p1_people_cells q_S_people_cells q_S_talks q_p1_talks q_p1_talks_cells q_S_talks_cells q_S_dues q_p1_dues q_p1_dues_cells q_S_dues_cells q_S_sights q_p1_sights q_p1_sights_cells q_S_sights_cells q_S_rule q_p1_rule q_p1_rule_cells q_S_rule_cells q_p1_settings q_S_settings q_p1_stake q_S_stake : Nat) (N_p1_people_cells : Nat) (N_S_people_cells : Nat) (N_p1_talks_cells : Nat) (N_S_talks_cells : Nat) (N_p1_dues_cells : Nat) (N_S_dues_cells : Nat) (N_p1_sights_cells : Nat) (N_S_sights_cells : Nat) (N_p1_rule_cells : Nat) (N_S_rule_cells : Nat) (v_S_people_width : Int32) (v_S_people_limit : Int32) (v_S_people_size : Int32) (v_p1_people_width : Int32) (v_p1_people_limit : Int32) (v_p1_people_size : Int32) (a_p1_people_cells : Nat → Int32) (a_S_people_cells : Nat → Int32) (v_S_talks_width : Int32) (v_S_talks_limit : Int32) (v_S_talks_size : Int32) (v_p1_talks_width : Int32) (v_p1_talks_limit : Int32) (v_p1_talks_size : Int32) (a_p1_talks_cells : Nat → Int32) (a_S_talks_cells : Nat → Int32) (v_S_dues_width : Int32) (v_S_dues_limit : Int32) (v_S_dues_size : Int32) (v_p1_dues_width : Int32) (v_p1_dues_limit : Int32) (v_p1_dues_size : Int32) (a_p1_dues_cells : Nat → Int32) (a_S_dues_cells : Nat → Int32) (v_S_sights_width : Int32) (v_S_sights_limit : Int32) (v_S_sights_size : Int32) (v_p1_sights_width : Int32) (v_p1_sights_limit : Int32) (v_p1_sights_size : Int32) (a_p1_sights_cells : Nat → Int32) (a_S_sights_cells : Nat → Int32) (v_S_rule_width : Int32) (v_S_rule_limit : Int32) (v_S_rule_size : Int32) (v_p1_rule_width : Int32) (v_p1_rule_limit : Int32) (v_p1_rule_size : Int32) (a_p1_rule_cells : Nat → Int32) (a_S_rule_cells : Nat → Int32) (a_S_settings : Nat → Int32) (a_p1_settings : Nat → Int32) (a_S_stake : Nat → Int32) (a_p1_stake : Nat → Int32) (o : Int32 × (Nat → Int32) × Int32 × (Nat → Int32) × Int32 × (Nat → Int32) × Int32 × (Nat → Int32) × Int32 × (Nat → Int32) × (Nat → Int32) × (Nat → Int32)) (hg : g_X9_copy N_p1_people_cells N_S_people_cells N_p1_talks_cells N_S_talks_cells N_p1_dues_cells N_S_dues_cells N_p1_sights_cells N_S_sights_cells N_p1_rule_cells N_S_rule_cells v_S_people_width v_S_people_limit v_p1_people_width v_p1_people_limit v_p1_people_size a_p1_people_cells v_S_talks_width v_S_talks_limit v_p1_talks_width v_p1_talks_limit v_p1_talks_size a_p1_talks_cells v_S_dues_width v_S_dues_limit v_p1_dues_width v_p1_dues_limit v_p1_dues_size a_p1_dues_cells v_S_sights_width v_S_sights_limit v_p1_sights_width v_p1_sights_limit v_p1_sights_size a_p1_sights_cells v_S_rule_width v_S_rule_limit v_p1_rule_width v_p1_rule_limit v_p1_rule_size a_p1_rule_cells a_p1_settings a_p1_stake v_S_people_size a_S_people_cells v_S_talks_size a_S_talks_cells v_S_dues_size a_S_dues_cells v_S_sights_size a_S_sights_cells v_S_rule_size a_S_rule_cells a_S_settings a_S_stake = some o) : zM l yX9_copy (Cond.code yX9_copy cX9_copy 2 none :: wsL_law) rm_X9_copy D (zTy cI cJ cZ cA) ga [.ref q_S, .ref q_p1] (ws_X9_copy cI cJ cZ cA q_S q_p1 q_S_people q_p1_people q_p1_people_cells q_S_people_cells q_S_talks q_p1_talks q_p1_talks_cells q_S_talks_cells q_S_dues q_p1_dues q_p1_dues_cells q_S_dues_cells q_S_sights q_p1_sights q_p1_sights_cells q_S_sights_cells q_S_rule q_p1_rule q_p1_rule_cells q_S_rule_cells q_p1_settings q_S_settings q_p1_stake q_S_stake N_p1_people_cells N_S_people_cells N_p1_talks_cells N_S_talks_cells N_p1_dues_cells N_S_dues_cells N_p1_sights_cells N_S_sights_cells N_p1_rule_cells N_S_rule_cells v_S_people_width v_S_people_limit v_S_people_size v_p1_people_width v_p1_people_limit v_p1_people_size a_p1_people_cells a_S_people_cells v_S_talks_width v_S_talks_limit v_S_talks_size v_p1_talks_width v_p1_talks_limit v_p1_talks_size a_p1_talks_cells a_S_talks_cells v_S_dues_width v_S_dues_limit v_S_dues_size v_p1_dues_width v_p1_dues_limit v_p1_dues_size a_p1_dues_cells a_S_dues_cells v_S_sights_width v_S_sights_limit v_S_sights_size v_p1_sights_width v_p1_sights_limit v_p1_sights_size a_p1_sights_cells a_S_sights_cells v_S_rule_width v_S_rule_limit v_S_rule_size v_p1_rule_width v_p1_rule_limit v_p1_rule_size a_p1_rule_cells a_S_rule_cells a_S_settings a_p1_settings a_S_stake a_p1_stake) (ws_X9_copy cI cJ cZ cA q_S q_p1 q_S_people q_p1_people q_p1_people_cells q_S_people_cells q_S_talks q_p1_talks q_p1_talks_cells q_S_talks_cells q_S_dues q_p1_dues q_p1_dues_cells q_S_dues_cells q_S_sights q_p1_sights q_p1_sights_cells q_S_sights_cells q_S_rule q_p1_rule q_p1_rule_cells q_S_rule_cells q_p1_settings q_S_settings q_p1_stake q_S_stake N_p1_people_cells N_S_people_cells N_p1_talks_cells N_S_talks_cells N_p1_dues_cells N_S_dues_cells N_p1_sights_cells N_S_sights_cells N_p1_rule_cells N_S_rule_cells v_S_people_width v_S_people_limit o.1 v_p1_people_width v_p1_people_limit v_p1_people_size a_p1_people_cells o.2.1 v_S_talks_width v_S_talks_limit o.2.2.1 v_p1_talks_width v_p1_talks_limit v_p1_talks_size a_p1_talks_cells o.2.2.2.1 v_S_dues_width v_S_dues_limit o.2.2.2.2.1 v_p1_dues_width v_p1_dues_limit v_p1_dues_size a_p1_dues_cells o.2.2.2.2.2.1 v_S_sights_width v_S_sights_limit o.2.2.2.2.2.2.1 v_p1_sights_width v_p1_sights_limit v_p1_sights_size a_p1_sights_cells o.2.2.2.2.2.2.2.1 v_S_rule_width v_S_rule_limit o.2.2.2.2.2.2.2.2.1 v_p1_rule_width v_p1_rule_limit v_p1_rule_size a_p1_rule_cells o.2.2.2.2.2.2.2.2.2.1 o.2.2.2.2.2.2.2.2.2.2.1 a_p1_settings o.2.2.2.2.2.2.2.2.2.2.2 a_p1_stake) none := by
  refine zenterV (own := RX9) (by decide) rfl rfl (Nat.le_of_ble_eq_true rfl) ?_
  intro p e s m args below meth c A ls Q S hA hK hG hl hP hD hS hret0
  have hx := S.1
  have hb := S.2.1
  have ht : ∀ w, w ∈ wsL_law → w.before args s = true := fun w h => S.2.2.2.2 w (List.mem_cons_of_mem _ h)
  have hret : ∀ (v_S_people_size : Int32) (a_S_people_cells : Nat → Int32) (v_S_talks_size : Int32) (a_S_talks_cells : Nat → Int32) (v_S_dues_size : Int32) (a_S_dues_cells : Nat → Int32) (v_S_sights_size : Int32) (a_S_sights_cells : Nat → Int32) (v_S_rule_size : Int32) (a_S_rule_cells : Nat → Int32) (a_S_settings : Nat → Int32) (a_S_stake : Nat → Int32), (some (v_S_people_size, a_S_people_cells, v_S_talks_size, a_S_talks_cells, v_S_dues_size, a_S_dues_cells, v_S_sights_size, a_S_sights_cells, v_S_rule_size, a_S_rule_cells, a_S_settings, a_S_stake) : Option (Int32 × (Nat → Int32) × Int32 × (Nat → Int32) × Int32 × (Nat → Int32) × Int32 × (Nat → Int32) × Int32 × (Nat → Int32) × (Nat → Int32) × (Nat → Int32))) = some o → ∀ (H : Heap) (locs : List Loc) (pc : Nat) (ls : Array Slot), va_P D vwCl (ws_X9_copy cI cJ cZ cA q_S q_p1 q_S_people q_p1_people q_p1_people_cells q_S_people_cells q_S_talks q_p1_talks q_p1_talks_cells q_S_talks_cells q_S_dues q_p1_dues q_p1_dues_cells q_S_dues_cells q_S_sights q_p1_sights q_p1_sights_cells q_S_sights_cells q_S_rule q_p1_rule q_p1_rule_cells q_S_rule_cells q_p1_settings q_S_settings q_p1_stake q_S_stake N_p1_people_cells N_S_people_cells N_p1_talks_cells N_S_talks_cells N_p1_dues_cells N_S_dues_cells N_p1_sights_cells N_S_sights_cells N_p1_rule_cells N_S_rule_cells v_S_people_width v_S_people_limit v_S_people_size v_p1_people_width v_p1_people_limit v_p1_people_size a_p1_people_cells a_S_people_cells v_S_talks_width v_S_talks_limit v_S_talks_size v_p1_talks_width v_p1_talks_limit v_p1_talks_size a_p1_talks_cells a_S_talks_cells v_S_dues_width v_S_dues_limit v_S_dues_size v_p1_dues_width v_p1_dues_limit v_p1_dues_size a_p1_dues_cells a_S_dues_cells v_S_sights_width v_S_sights_limit v_S_sights_size v_p1_sights_width v_p1_sights_limit v_p1_sights_size a_p1_sights_cells a_S_sights_cells v_S_rule_width v_S_rule_limit v_S_rule_size v_p1_rule_width v_p1_rule_limit v_p1_rule_size a_p1_rule_cells a_S_rule_cells a_S_settings a_p1_settings a_S_stake a_p1_stake) H → va_S A s.heap H locs → decode cX9_copy pc = .ok (.return_, 1) → W p l e rm_X9_copy s m args below meth c H locs 0 0 Q (F0 m pc ls []) := by
    intro v_S_people_size a_S_people_cells v_S_talks_size a_S_talks_cells v_S_dues_size a_S_dues_cells v_S_sights_size a_S_sights_cells v_S_rule_size a_S_rule_cells a_S_settings a_S_stake he; cases he; exact hret0
  have hl : lv_has ls 2 [(0, .ref q_S), (1, .ref q_p1)] := hl
  refine lv_aload_n hx hb dX9_copy_0 rfl (lv_at hl 1 rfl) ?_
  refine lv_ifnonnull (tgt := 5) hx hb dX9_copy_1 (by decide) ?_
  refine lv_aload_n hx hb dX9_copy_5 rfl (lv_at hl 0 rfl) ?_
  refine zget (C := RX9) (T := TX9) (N := 7) S hK hP 0 rfl rfl 0 (Nat.le_of_ble_eq_true rfl) zf_9 zw_80 rfl dX9_copy_6 ?_
  refine lv_aload_n hx hb dX9_copy_9 rfl (lv_at hl 1 rfl) ?_
  refine zget (C := RX9) (T := TX9) (N := 7) S hK hP 1 rfl rfl 0 (Nat.le_of_ble_eq_true rfl) zf_9 zw_80 rfl dX9_copy_10 ?_
  obtain ⟨v1, hc2, hg⟩ := zbd hg
  refine zcallV (rest := []) S (c_X7_copy l D cI cJ cZ cA ga q_S_people q_p1_people q_p1_people_cells q_S_people_cells N_p1_people_cells N_S_people_cells v_p1_people_width v_p1_people_limit v_p1_people_size v_S_people_width v_S_people_limit v_S_people_size a_p1_people_cells a_S_people_cells v1 hc2) (zgV zw_330 zw_331 zw_332 zw_32 zw_333) rfl hd_X7_copy ⟨rfl, rfl⟩ ⟨Nat.le_of_ble_eq_true rfl, Nat.le_of_ble_eq_true rfl⟩ 2 7 rfl rfl rfl hl.1 rfl (Nat.le_of_ble_eq_true rfl) dX9_copy_13 hP hD hS hA hK hG (isC := [3, 2, 4, 5]) rfl rfl rfl (w2 := (ws_X9_copy cI cJ cZ cA q_S q_p1 q_S_people q_p1_people q_p1_people_cells q_S_people_cells q_S_talks q_p1_talks q_p1_talks_cells q_S_talks_cells q_S_dues q_p1_dues q_p1_dues_cells q_S_dues_cells q_S_sights q_p1_sights q_p1_sights_cells q_S_sights_cells q_S_rule q_p1_rule q_p1_rule_cells q_S_rule_cells q_p1_settings q_S_settings q_p1_stake q_S_stake N_p1_people_cells N_S_people_cells N_p1_talks_cells N_S_talks_cells N_p1_dues_cells N_S_dues_cells N_p1_sights_cells N_S_sights_cells N_p1_rule_cells N_S_rule_cells v_S_people_width v_S_people_limit v1.1 v_p1_people_width v_p1_people_limit v_p1_people_size a_p1_people_cells v1.2 v_S_talks_width v_S_talks_limit v_S_talks_size v_p1_talks_width v_p1_talks_limit v_p1_talks_size a_p1_talks_cells a_S_talks_cells v_S_dues_width v_S_dues_limit v_S_dues_size v_p1_dues_width v_p1_dues_limit v_p1_dues_size a_p1_dues_cells a_S_dues_cells v_S_sights_width v_S_sights_limit v_S_sights_size v_p1_sights_width v_p1_sights_limit v_p1_sights_size a_p1_sights_cells a_S_sights_cells v_S_rule_width v_S_rule_limit v_S_rule_size v_p1_rule_width v_p1_rule_limit v_p1_rule_size a_p1_rule_cells a_S_rule_cells a_S_settings a_p1_settings a_S_stake a_p1_stake)) rfl (st1 := []) rfl (fun H locs hP hD hS => ?_)
  refine lv_aload_n hx hb dX9_copy_16 rfl (lv_at hl 0 rfl) ?_
  refine zget (C := RX9) (T := TX9) (N := 7) S hK hP 0 rfl rfl 1 (Nat.le_of_ble_eq_true rfl) zf_9 zw_81 rfl dX9_copy_17 ?_
  refine lv_aload_n hx hb dX9_copy_20 rfl (lv_at hl 1 rfl) ?_
  refine zget (C := RX9) (T := TX9) (N := 7) S hK hP 1 rfl rfl 1 (Nat.le_of_ble_eq_true rfl) zf_9 zw_81 rfl dX9_copy_21 ?_
  obtain ⟨v3, hc4, hg⟩ := zbd hg
  refine zcallV (rest := []) S (c_X7_copy l D cI cJ cZ cA ga q_S_talks q_p1_talks q_p1_talks_cells q_S_talks_cells N_p1_talks_cells N_S_talks_cells v_p1_talks_width v_p1_talks_limit v_p1_talks_size v_S_talks_width v_S_talks_limit v_S_talks_size a_p1_talks_cells a_S_talks_cells v3 hc4) (zgV zw_330 zw_331 zw_332 zw_32 zw_333) rfl hd_X7_copy ⟨rfl, rfl⟩ ⟨Nat.le_of_ble_eq_true rfl, Nat.le_of_ble_eq_true rfl⟩ 6 7 rfl rfl rfl hl.1 rfl (Nat.le_of_ble_eq_true rfl) dX9_copy_24 hP hD hS hA hK hG (isC := [7, 6, 8, 9]) rfl rfl rfl (w2 := (ws_X9_copy cI cJ cZ cA q_S q_p1 q_S_people q_p1_people q_p1_people_cells q_S_people_cells q_S_talks q_p1_talks q_p1_talks_cells q_S_talks_cells q_S_dues q_p1_dues q_p1_dues_cells q_S_dues_cells q_S_sights q_p1_sights q_p1_sights_cells q_S_sights_cells q_S_rule q_p1_rule q_p1_rule_cells q_S_rule_cells q_p1_settings q_S_settings q_p1_stake q_S_stake N_p1_people_cells N_S_people_cells N_p1_talks_cells N_S_talks_cells N_p1_dues_cells N_S_dues_cells N_p1_sights_cells N_S_sights_cells N_p1_rule_cells N_S_rule_cells v_S_people_width v_S_people_limit v1.1 v_p1_people_width v_p1_people_limit v_p1_people_size a_p1_people_cells v1.2 v_S_talks_width v_S_talks_limit v3.1 v_p1_talks_width v_p1_talks_limit v_p1_talks_size a_p1_talks_cells v3.2 v_S_dues_width v_S_dues_limit v_S_dues_size v_p1_dues_width v_p1_dues_limit v_p1_dues_size a_p1_dues_cells a_S_dues_cells v_S_sights_width v_S_sights_limit v_S_sights_size v_p1_sights_width v_p1_sights_limit v_p1_sights_size a_p1_sights_cells a_S_sights_cells v_S_rule_width v_S_rule_limit v_S_rule_size v_p1_rule_width v_p1_rule_limit v_p1_rule_size a_p1_rule_cells a_S_rule_cells a_S_settings a_p1_settings a_S_stake a_p1_stake)) rfl (st1 := []) rfl (fun H locs hP hD hS => ?_)
  refine lv_aload_n hx hb dX9_copy_27 rfl (lv_at hl 0 rfl) ?_
  refine zget (C := RX9) (T := TX9) (N := 7) S hK hP 0 rfl rfl 2 (Nat.le_of_ble_eq_true rfl) zf_9 zw_82 rfl dX9_copy_28 ?_
  refine lv_aload_n hx hb dX9_copy_31 rfl (lv_at hl 1 rfl) ?_
  refine zget (C := RX9) (T := TX9) (N := 7) S hK hP 1 rfl rfl 2 (Nat.le_of_ble_eq_true rfl) zf_9 zw_82 rfl dX9_copy_32 ?_
  obtain ⟨v5, hc6, hg⟩ := zbd hg
  refine zcallV (rest := []) S (c_X7_copy l D cI cJ cZ cA ga q_S_dues q_p1_dues q_p1_dues_cells q_S_dues_cells N_p1_dues_cells N_S_dues_cells v_p1_dues_width v_p1_dues_limit v_p1_dues_size v_S_dues_width v_S_dues_limit v_S_dues_size a_p1_dues_cells a_S_dues_cells v5 hc6) (zgV zw_330 zw_331 zw_332 zw_32 zw_333) rfl hd_X7_copy ⟨rfl, rfl⟩ ⟨Nat.le_of_ble_eq_true rfl, Nat.le_of_ble_eq_true rfl⟩ 10 7 rfl rfl rfl hl.1 rfl (Nat.le_of_ble_eq_true rfl) dX9_copy_35 hP hD hS hA hK hG (isC := [11, 10, 12, 13]) rfl rfl rfl (w2 := (ws_X9_copy cI cJ cZ cA q_S q_p1 q_S_people q_p1_people q_p1_people_cells q_S_people_cells q_S_talks q_p1_talks q_p1_talks_cells q_S_talks_cells q_S_dues q_p1_dues q_p1_dues_cells q_S_dues_cells q_S_sights q_p1_sights q_p1_sights_cells q_S_sights_cells q_S_rule q_p1_rule q_p1_rule_cells q_S_rule_cells q_p1_settings q_S_settings q_p1_stake q_S_stake N_p1_people_cells N_S_people_cells N_p1_talks_cells N_S_talks_cells N_p1_dues_cells N_S_dues_cells N_p1_sights_cells N_S_sights_cells N_p1_rule_cells N_S_rule_cells v_S_people_width v_S_people_limit v1.1 v_p1_people_width v_p1_people_limit v_p1_people_size a_p1_people_cells v1.2 v_S_talks_width v_S_talks_limit v3.1 v_p1_talks_width v_p1_talks_limit v_p1_talks_size a_p1_talks_cells v3.2 v_S_dues_width v_S_dues_limit v5.1 v_p1_dues_width v_p1_dues_limit v_p1_dues_size a_p1_dues_cells v5.2 v_S_sights_width v_S_sights_limit v_S_sights_size v_p1_sights_width v_p1_sights_limit v_p1_sights_size a_p1_sights_cells a_S_sights_cells v_S_rule_width v_S_rule_limit v_S_rule_size v_p1_rule_width v_p1_rule_limit v_p1_rule_size a_p1_rule_cells a_S_rule_cells a_S_settings a_p1_settings a_S_stake a_p1_stake)) rfl (st1 := []) rfl (fun H locs hP hD hS => ?_)
  refine lv_aload_n hx hb dX9_copy_38 rfl (lv_at hl 0 rfl) ?_
  refine zget (C := RX9) (T := TX9) (N := 7) S hK hP 0 rfl rfl 3 (Nat.le_of_ble_eq_true rfl) zf_9 zw_83 rfl dX9_copy_39 ?_
  refine lv_aload_n hx hb dX9_copy_42 rfl (lv_at hl 1 rfl) ?_
  refine zget (C := RX9) (T := TX9) (N := 7) S hK hP 1 rfl rfl 3 (Nat.le_of_ble_eq_true rfl) zf_9 zw_83 rfl dX9_copy_43 ?_
  obtain ⟨v7, hc8, hg⟩ := zbd hg
  refine zcallV (rest := []) S (c_X7_copy l D cI cJ cZ cA ga q_S_sights q_p1_sights q_p1_sights_cells q_S_sights_cells N_p1_sights_cells N_S_sights_cells v_p1_sights_width v_p1_sights_limit v_p1_sights_size v_S_sights_width v_S_sights_limit v_S_sights_size a_p1_sights_cells a_S_sights_cells v7 hc8) (zgV zw_330 zw_331 zw_332 zw_32 zw_333) rfl hd_X7_copy ⟨rfl, rfl⟩ ⟨Nat.le_of_ble_eq_true rfl, Nat.le_of_ble_eq_true rfl⟩ 14 7 rfl rfl rfl hl.1 rfl (Nat.le_of_ble_eq_true rfl) dX9_copy_46 hP hD hS hA hK hG (isC := [15, 14, 16, 17]) rfl rfl rfl (w2 := (ws_X9_copy cI cJ cZ cA q_S q_p1 q_S_people q_p1_people q_p1_people_cells q_S_people_cells q_S_talks q_p1_talks q_p1_talks_cells q_S_talks_cells q_S_dues q_p1_dues q_p1_dues_cells q_S_dues_cells q_S_sights q_p1_sights q_p1_sights_cells q_S_sights_cells q_S_rule q_p1_rule q_p1_rule_cells q_S_rule_cells q_p1_settings q_S_settings q_p1_stake q_S_stake N_p1_people_cells N_S_people_cells N_p1_talks_cells N_S_talks_cells N_p1_dues_cells N_S_dues_cells N_p1_sights_cells N_S_sights_cells N_p1_rule_cells N_S_rule_cells v_S_people_width v_S_people_limit v1.1 v_p1_people_width v_p1_people_limit v_p1_people_size a_p1_people_cells v1.2 v_S_talks_width v_S_talks_limit v3.1 v_p1_talks_width v_p1_talks_limit v_p1_talks_size a_p1_talks_cells v3.2 v_S_dues_width v_S_dues_limit v5.1 v_p1_dues_width v_p1_dues_limit v_p1_dues_size a_p1_dues_cells v5.2 v_S_sights_width v_S_sights_limit v7.1 v_p1_sights_width v_p1_sights_limit v_p1_sights_size a_p1_sights_cells v7.2 v_S_rule_width v_S_rule_limit v_S_rule_size v_p1_rule_width v_p1_rule_limit v_p1_rule_size a_p1_rule_cells a_S_rule_cells a_S_settings a_p1_settings a_S_stake a_p1_stake)) rfl (st1 := []) rfl (fun H locs hP hD hS => ?_)
  refine lv_aload_n hx hb dX9_copy_49 rfl (lv_at hl 0 rfl) ?_
  refine zget (C := RX9) (T := TX9) (N := 7) S hK hP 0 rfl rfl 4 (Nat.le_of_ble_eq_true rfl) zf_9 zw_84 rfl dX9_copy_50 ?_
  refine lv_aload_n hx hb dX9_copy_53 rfl (lv_at hl 1 rfl) ?_
  refine zget (C := RX9) (T := TX9) (N := 7) S hK hP 1 rfl rfl 4 (Nat.le_of_ble_eq_true rfl) zf_9 zw_84 rfl dX9_copy_54 ?_
  obtain ⟨v9, hc10, hg⟩ := zbd hg
  refine zcallV (rest := []) S (c_X7_copy l D cI cJ cZ cA ga q_S_rule q_p1_rule q_p1_rule_cells q_S_rule_cells N_p1_rule_cells N_S_rule_cells v_p1_rule_width v_p1_rule_limit v_p1_rule_size v_S_rule_width v_S_rule_limit v_S_rule_size a_p1_rule_cells a_S_rule_cells v9 hc10) (zgV zw_330 zw_331 zw_332 zw_32 zw_333) rfl hd_X7_copy ⟨rfl, rfl⟩ ⟨Nat.le_of_ble_eq_true rfl, Nat.le_of_ble_eq_true rfl⟩ 18 7 rfl rfl rfl hl.1 rfl (Nat.le_of_ble_eq_true rfl) dX9_copy_57 hP hD hS hA hK hG (isC := [19, 18, 20, 21]) rfl rfl rfl (w2 := (ws_X9_copy cI cJ cZ cA q_S q_p1 q_S_people q_p1_people q_p1_people_cells q_S_people_cells q_S_talks q_p1_talks q_p1_talks_cells q_S_talks_cells q_S_dues q_p1_dues q_p1_dues_cells q_S_dues_cells q_S_sights q_p1_sights q_p1_sights_cells q_S_sights_cells q_S_rule q_p1_rule q_p1_rule_cells q_S_rule_cells q_p1_settings q_S_settings q_p1_stake q_S_stake N_p1_people_cells N_S_people_cells N_p1_talks_cells N_S_talks_cells N_p1_dues_cells N_S_dues_cells N_p1_sights_cells N_S_sights_cells N_p1_rule_cells N_S_rule_cells v_S_people_width v_S_people_limit v1.1 v_p1_people_width v_p1_people_limit v_p1_people_size a_p1_people_cells v1.2 v_S_talks_width v_S_talks_limit v3.1 v_p1_talks_width v_p1_talks_limit v_p1_talks_size a_p1_talks_cells v3.2 v_S_dues_width v_S_dues_limit v5.1 v_p1_dues_width v_p1_dues_limit v_p1_dues_size a_p1_dues_cells v5.2 v_S_sights_width v_S_sights_limit v7.1 v_p1_sights_width v_p1_sights_limit v_p1_sights_size a_p1_sights_cells v7.2 v_S_rule_width v_S_rule_limit v9.1 v_p1_rule_width v_p1_rule_limit v_p1_rule_size a_p1_rule_cells v9.2 a_S_settings a_p1_settings a_S_stake a_p1_stake)) rfl (st1 := []) rfl (fun H locs hP hD hS => ?_)
  refine lv_aload_n hx hb dX9_copy_60 rfl (lv_at hl 1 rfl) ?_
  refine zget (C := RX9) (T := TX9) (N := 7) S hK hP 1 rfl rfl 5 (Nat.le_of_ble_eq_true rfl) zf_9 zw_85 rfl dX9_copy_61 ?_
  refine lv_iconst (v := 0) hx hb dX9_copy_64 (by decide) ?_
  refine lv_aload_n hx hb dX9_copy_65 rfl (lv_at hl 0 rfl) ?_
  refine zget (C := RX9) (T := TX9) (N := 7) S hK hP 0 rfl rfl 5 (Nat.le_of_ble_eq_true rfl) zf_9 zw_85 rfl dX9_copy_66 ?_
  refine lv_iconst (v := 0) hx hb dX9_copy_69 (by decide) ?_
  refine lv_aload_n hx hb dX9_copy_70 rfl (lv_at hl 0 rfl) ?_
  refine zget (C := RX9) (T := TX9) (N := 7) S hK hP 0 rfl rfl 5 (Nat.le_of_ble_eq_true rfl) zf_9 zw_85 rfl dX9_copy_71 ?_
  refine va_alen (v := 3) hx hb hK hP 22 0 rfl rfl (show Int32.ofNat 3 = 3 by decide) dX9_copy_74 ?_
  obtain ⟨h11, hg⟩ := zck hg
  refine zcopy S hl.1 zw_326 zw_327 zw_328 zw_329 hK hP hD hS 23 22 0 0 rfl rfl rfl rfl h11 (Nat.le_of_ble_eq_true rfl) (Nat.le_of_ble_eq_true rfl) dX9_copy_75 (w2 := (ws_X9_copy cI cJ cZ cA q_S q_p1 q_S_people q_p1_people q_p1_people_cells q_S_people_cells q_S_talks q_p1_talks q_p1_talks_cells q_S_talks_cells q_S_dues q_p1_dues q_p1_dues_cells q_S_dues_cells q_S_sights q_p1_sights q_p1_sights_cells q_S_sights_cells q_S_rule q_p1_rule q_p1_rule_cells q_S_rule_cells q_p1_settings q_S_settings q_p1_stake q_S_stake N_p1_people_cells N_S_people_cells N_p1_talks_cells N_S_talks_cells N_p1_dues_cells N_S_dues_cells N_p1_sights_cells N_S_sights_cells N_p1_rule_cells N_S_rule_cells v_S_people_width v_S_people_limit v1.1 v_p1_people_width v_p1_people_limit v_p1_people_size a_p1_people_cells v1.2 v_S_talks_width v_S_talks_limit v3.1 v_p1_talks_width v_p1_talks_limit v_p1_talks_size a_p1_talks_cells v3.2 v_S_dues_width v_S_dues_limit v5.1 v_p1_dues_width v_p1_dues_limit v_p1_dues_size a_p1_dues_cells v5.2 v_S_sights_width v_S_sights_limit v7.1 v_p1_sights_width v_p1_sights_limit v_p1_sights_size a_p1_sights_cells v7.2 v_S_rule_width v_S_rule_limit v9.1 v_p1_rule_width v_p1_rule_limit v_p1_rule_size a_p1_rule_cells v9.2 (va_cpy a_p1_settings a_S_settings 0 0 (3 : Int32).toNatClampNeg) a_p1_settings a_S_stake a_p1_stake)) rfl (fun H locs hP hD hS => ?_)
  refine lv_aload_n hx hb dX9_copy_78 rfl (lv_at hl 1 rfl) ?_
  refine zget (C := RX9) (T := TX9) (N := 7) S hK hP 1 rfl rfl 6 (Nat.le_of_ble_eq_true rfl) zf_9 zw_86 rfl dX9_copy_79 ?_
  refine lv_iconst (v := 0) hx hb dX9_copy_82 (by decide) ?_
  refine lv_aload_n hx hb dX9_copy_83 rfl (lv_at hl 0 rfl) ?_
  refine zget (C := RX9) (T := TX9) (N := 7) S hK hP 0 rfl rfl 6 (Nat.le_of_ble_eq_true rfl) zf_9 zw_86 rfl dX9_copy_84 ?_
  refine lv_iconst (v := 0) hx hb dX9_copy_87 (by decide) ?_
  refine lv_aload_n hx hb dX9_copy_88 rfl (lv_at hl 0 rfl) ?_
  refine zget (C := RX9) (T := TX9) (N := 7) S hK hP 0 rfl rfl 6 (Nat.le_of_ble_eq_true rfl) zf_9 zw_86 rfl dX9_copy_89 ?_
  refine va_alen (v := 5) hx hb hK hP 24 0 rfl rfl (show Int32.ofNat 5 = 5 by decide) dX9_copy_92 ?_
  obtain ⟨h12, hg⟩ := zck hg
  refine zcopy S hl.1 zw_326 zw_327 zw_328 zw_329 hK hP hD hS 25 24 0 0 rfl rfl rfl rfl h12 (Nat.le_of_ble_eq_true rfl) (Nat.le_of_ble_eq_true rfl) dX9_copy_93 (w2 := (ws_X9_copy cI cJ cZ cA q_S q_p1 q_S_people q_p1_people q_p1_people_cells q_S_people_cells q_S_talks q_p1_talks q_p1_talks_cells q_S_talks_cells q_S_dues q_p1_dues q_p1_dues_cells q_S_dues_cells q_S_sights q_p1_sights q_p1_sights_cells q_S_sights_cells q_S_rule q_p1_rule q_p1_rule_cells q_S_rule_cells q_p1_settings q_S_settings q_p1_stake q_S_stake N_p1_people_cells N_S_people_cells N_p1_talks_cells N_S_talks_cells N_p1_dues_cells N_S_dues_cells N_p1_sights_cells N_S_sights_cells N_p1_rule_cells N_S_rule_cells v_S_people_width v_S_people_limit v1.1 v_p1_people_width v_p1_people_limit v_p1_people_size a_p1_people_cells v1.2 v_S_talks_width v_S_talks_limit v3.1 v_p1_talks_width v_p1_talks_limit v_p1_talks_size a_p1_talks_cells v3.2 v_S_dues_width v_S_dues_limit v5.1 v_p1_dues_width v_p1_dues_limit v_p1_dues_size a_p1_dues_cells v5.2 v_S_sights_width v_S_sights_limit v7.1 v_p1_sights_width v_p1_sights_limit v_p1_sights_size a_p1_sights_cells v7.2 v_S_rule_width v_S_rule_limit v9.1 v_p1_rule_width v_p1_rule_limit v_p1_rule_size a_p1_rule_cells v9.2 (va_cpy a_p1_settings a_S_settings 0 0 (3 : Int32).toNatClampNeg) a_p1_settings (va_cpy a_p1_stake a_S_stake 0 0 (5 : Int32).toNatClampNeg) a_p1_stake)) rfl (fun H locs hP hD hS => ?_)
  exact hret v1.1 v1.2 v3.1 v3.2 v5.1 v5.2 v7.1 v7.2 v9.1 v9.2 (va_cpy a_p1_settings a_S_settings 0 0 (3 : Int32).toNatClampNeg) (va_cpy a_p1_stake a_S_stake 0 0 (5 : Int32).toNatClampNeg) hg _ _ _ _ hP hS dX9_copy_96

/-! SpokenClock$State.forget()V -/
abbrev ws_X9_forget (cI cJ cZ cA : ClassId) (q_S q_S_people q_S_talks q_S_dues q_S_sights q_S_settings : Nat) (u_S_rule : Value) (u_S_stake : Value) (u_S_people_width : Value) (u_S_people_limit : Value) (u_S_people_cells : Value) (u_S_talks_width : Value) (u_S_talks_limit : Value) (u_S_talks_cells : Value) (u_S_dues_width : Value) (u_S_dues_limit : Value) (u_S_dues_cells : Value) (u_S_sights_width : Value) (u_S_sights_limit : Value) (u_S_sights_cells : Value) (v_S_people_size : Int32) (v_S_talks_size : Int32) (v_S_dues_size : Int32) (v_S_sights_size : Int32) (a_S_settings : Nat → Int32) : va_W := [(q_S, .inr (9, [.ref q_S_people, .ref q_S_talks, .ref q_S_dues, .ref q_S_sights, u_S_rule, .ref q_S_settings, u_S_stake])), (q_S_people, .inr (7, [u_S_people_width, u_S_people_limit, u_S_people_cells, .int v_S_people_size])), (q_S_talks, .inr (7, [u_S_talks_width, u_S_talks_limit, u_S_talks_cells, .int v_S_talks_size])), (q_S_dues, .inr (7, [u_S_dues_width, u_S_dues_limit, u_S_dues_cells, .int v_S_dues_size])), (q_S_sights, .inr (7, [u_S_sights_width, u_S_sights_limit, u_S_sights_cells, .int v_S_sights_size])), (q_S_settings, .inl (cI, 3, .inl a_S_settings))]
abbrev rm_X9_forget : Room := { frames := 1, cells := 0, slots := 0, locals := 21 }
def g_X9_forget (v_S_people_size : Int32) (v_S_talks_size : Int32) (v_S_dues_size : Int32) (v_S_sights_size : Int32) (a_S_settings : Nat → Int32) : Option (Int32 × Int32 × Int32 × Int32 × (Nat → Int32)) :=
  (g_X7_clear v_S_people_size).bind fun v1 =>
  (g_X7_clear v_S_talks_size).bind fun v3 =>
  (g_X7_clear v_S_dues_size).bind fun v5 =>
  (g_X7_clear v_S_sights_size).bind fun v7 =>
  some (v1.2, v3.2, v5.2, v7.2, upd (upd (upd a_S_settings 0 1) 1 0) 2 60)
theorem hd_X9_forget : yX9_forget.cls = RX9 ∧ yX9_forget.cls ≠ "java/lang/invoke/MethodHandle" ∧ yX9_forget.cls ≠ "java/lang/invoke/VarHandle" ∧ (parseMethodDescriptor yX9_forget.desc).map (fun d => d.parameters.length) = some 0 := by decide +kernel
set_option maxHeartbeats 4000000 in
set_option maxRecDepth 100000 in
theorem c_X9_forget (l : Launch) (D : va_G) (cI cJ cZ cA : ClassId) (ga : Nat → Nat) (q_S q_S_people q_S_talks q_S_dues q_S_sights q_S_settings : Nat) (u_S_rule : Value) (u_S_stake : Value) (u_S_people_width : Value) (u_S_people_limit : Value) (u_S_people_cells : Value) (u_S_talks_width : Value) (u_S_talks_limit : Value) (u_S_talks_cells : Value) (u_S_dues_width : Value) (u_S_dues_limit : Value) (u_S_dues_cells : Value) (u_S_sights_width : Value) (u_S_sights_limit : Value) (u_S_sights_cells : Value) (v_S_people_size : Int32) (v_S_talks_size : Int32) (v_S_dues_size : Int32) (v_S_sights_size : Int32) (a_S_settings : Nat → Int32) (o : Int32 × Int32 × Int32 × Int32 × (Nat → Int32)) (hg : g_X9_forget v_S_people_size v_S_talks_size v_S_dues_size v_S_sights_size a_S_settings = some o) : zM l yX9_forget (Cond.code yX9_forget cX9_forget 1 none :: wsL_law) rm_X9_forget D (zTy cI cJ cZ cA) ga [.ref q_S] (ws_X9_forget cI cJ cZ cA q_S q_S_people q_S_talks q_S_dues q_S_sights q_S_settings u_S_rule u_S_stake u_S_people_width u_S_people_limit u_S_people_cells u_S_talks_width u_S_talks_limit u_S_talks_cells u_S_dues_width u_S_dues_limit u_S_dues_cells u_S_sights_width u_S_sights_limit u_S_sights_cells v_S_people_size v_S_talks_size v_S_dues_size v_S_sights_size a_S_settings) (ws_X9_forget cI cJ cZ cA q_S q_S_people q_S_talks q_S_dues q_S_sights q_S_settings u_S_rule u_S_stake u_S_people_width u_S_people_limit u_S_people_cells u_S_talks_width u_S_talks_limit u_S_talks_cells u_S_dues_width u_S_dues_limit u_S_dues_cells u_S_sights_width u_S_sights_limit u_S_sights_cells o.1 o.2.1 o.2.2.1 o.2.2.2.1 o.2.2.2.2) none := by
  refine zenterV (own := RX9) (by decide) rfl rfl (Nat.le_of_ble_eq_true rfl) ?_
  intro p e s m args below meth c A ls Q S hA hK hG hl hP hD hS hret0
  have hx := S.1
  have hb := S.2.1
  have ht : ∀ w, w ∈ wsL_law → w.before args s = true := fun w h => S.2.2.2.2 w (List.mem_cons_of_mem _ h)
  have hret : ∀ (v_S_people_size : Int32) (v_S_talks_size : Int32) (v_S_dues_size : Int32) (v_S_sights_size : Int32) (a_S_settings : Nat → Int32), (some (v_S_people_size, v_S_talks_size, v_S_dues_size, v_S_sights_size, a_S_settings) : Option (Int32 × Int32 × Int32 × Int32 × (Nat → Int32))) = some o → ∀ (H : Heap) (locs : List Loc) (pc : Nat) (ls : Array Slot), va_P D vwCl (ws_X9_forget cI cJ cZ cA q_S q_S_people q_S_talks q_S_dues q_S_sights q_S_settings u_S_rule u_S_stake u_S_people_width u_S_people_limit u_S_people_cells u_S_talks_width u_S_talks_limit u_S_talks_cells u_S_dues_width u_S_dues_limit u_S_dues_cells u_S_sights_width u_S_sights_limit u_S_sights_cells v_S_people_size v_S_talks_size v_S_dues_size v_S_sights_size a_S_settings) H → va_S A s.heap H locs → decode cX9_forget pc = .ok (.return_, 1) → W p l e rm_X9_forget s m args below meth c H locs 0 0 Q (F0 m pc ls []) := by
    intro v_S_people_size v_S_talks_size v_S_dues_size v_S_sights_size a_S_settings he; cases he; exact hret0
  have hl : lv_has ls 1 [(0, .ref q_S)] := hl
  refine lv_aload_n hx hb dX9_forget_0 rfl (lv_at hl 0 rfl) ?_
  refine zget (C := RX9) (T := TX9) (N := 7) S hK hP 0 rfl rfl 0 (Nat.le_of_ble_eq_true rfl) zf_9 zw_80 rfl dX9_forget_1 ?_
  obtain ⟨v1, hc2, hg⟩ := zbd hg
  refine zcallV (rest := []) S (c_X7_clear l D cI cJ cZ cA ga q_S_people u_S_people_width u_S_people_limit u_S_people_cells v_S_people_size v1 hc2) (zgV zw_339 zw_286 zw_287 zw_32 zw_288) rfl hd_X7_clear ⟨rfl, rfl⟩ ⟨Nat.le_of_ble_eq_true rfl, Nat.le_of_ble_eq_true rfl⟩ 1 7 rfl rfl rfl hl.1 rfl (Nat.le_of_ble_eq_true rfl) dX9_forget_4 hP hD hS hA hK hG (isC := [1]) rfl rfl rfl (w2 := (ws_X9_forget cI cJ cZ cA q_S q_S_people q_S_talks q_S_dues q_S_sights q_S_settings u_S_rule u_S_stake u_S_people_width u_S_people_limit u_S_people_cells u_S_talks_width u_S_talks_limit u_S_talks_cells u_S_dues_width u_S_dues_limit u_S_dues_cells u_S_sights_width u_S_sights_limit u_S_sights_cells v1.2 v_S_talks_size v_S_dues_size v_S_sights_size a_S_settings)) rfl (st1 := [.int v1.1]) rfl (fun H locs hP hD hS => ?_)
  refine lv_pop hx hb dX9_forget_7 rfl ?_
  refine lv_aload_n hx hb dX9_forget_8 rfl (lv_at hl 0 rfl) ?_
  refine zget (C := RX9) (T := TX9) (N := 7) S hK hP 0 rfl rfl 1 (Nat.le_of_ble_eq_true rfl) zf_9 zw_81 rfl dX9_forget_9 ?_
  obtain ⟨v3, hc4, hg⟩ := zbd hg
  refine zcallV (rest := []) S (c_X7_clear l D cI cJ cZ cA ga q_S_talks u_S_talks_width u_S_talks_limit u_S_talks_cells v_S_talks_size v3 hc4) (zgV zw_339 zw_286 zw_287 zw_32 zw_288) rfl hd_X7_clear ⟨rfl, rfl⟩ ⟨Nat.le_of_ble_eq_true rfl, Nat.le_of_ble_eq_true rfl⟩ 2 7 rfl rfl rfl hl.1 rfl (Nat.le_of_ble_eq_true rfl) dX9_forget_12 hP hD hS hA hK hG (isC := [2]) rfl rfl rfl (w2 := (ws_X9_forget cI cJ cZ cA q_S q_S_people q_S_talks q_S_dues q_S_sights q_S_settings u_S_rule u_S_stake u_S_people_width u_S_people_limit u_S_people_cells u_S_talks_width u_S_talks_limit u_S_talks_cells u_S_dues_width u_S_dues_limit u_S_dues_cells u_S_sights_width u_S_sights_limit u_S_sights_cells v1.2 v3.2 v_S_dues_size v_S_sights_size a_S_settings)) rfl (st1 := [.int v3.1]) rfl (fun H locs hP hD hS => ?_)
  refine lv_pop hx hb dX9_forget_15 rfl ?_
  refine lv_aload_n hx hb dX9_forget_16 rfl (lv_at hl 0 rfl) ?_
  refine zget (C := RX9) (T := TX9) (N := 7) S hK hP 0 rfl rfl 2 (Nat.le_of_ble_eq_true rfl) zf_9 zw_82 rfl dX9_forget_17 ?_
  obtain ⟨v5, hc6, hg⟩ := zbd hg
  refine zcallV (rest := []) S (c_X7_clear l D cI cJ cZ cA ga q_S_dues u_S_dues_width u_S_dues_limit u_S_dues_cells v_S_dues_size v5 hc6) (zgV zw_339 zw_286 zw_287 zw_32 zw_288) rfl hd_X7_clear ⟨rfl, rfl⟩ ⟨Nat.le_of_ble_eq_true rfl, Nat.le_of_ble_eq_true rfl⟩ 3 7 rfl rfl rfl hl.1 rfl (Nat.le_of_ble_eq_true rfl) dX9_forget_20 hP hD hS hA hK hG (isC := [3]) rfl rfl rfl (w2 := (ws_X9_forget cI cJ cZ cA q_S q_S_people q_S_talks q_S_dues q_S_sights q_S_settings u_S_rule u_S_stake u_S_people_width u_S_people_limit u_S_people_cells u_S_talks_width u_S_talks_limit u_S_talks_cells u_S_dues_width u_S_dues_limit u_S_dues_cells u_S_sights_width u_S_sights_limit u_S_sights_cells v1.2 v3.2 v5.2 v_S_sights_size a_S_settings)) rfl (st1 := [.int v5.1]) rfl (fun H locs hP hD hS => ?_)
  refine lv_pop hx hb dX9_forget_23 rfl ?_
  refine lv_aload_n hx hb dX9_forget_24 rfl (lv_at hl 0 rfl) ?_
  refine zget (C := RX9) (T := TX9) (N := 7) S hK hP 0 rfl rfl 3 (Nat.le_of_ble_eq_true rfl) zf_9 zw_83 rfl dX9_forget_25 ?_
  obtain ⟨v7, hc8, hg⟩ := zbd hg
  refine zcallV (rest := []) S (c_X7_clear l D cI cJ cZ cA ga q_S_sights u_S_sights_width u_S_sights_limit u_S_sights_cells v_S_sights_size v7 hc8) (zgV zw_339 zw_286 zw_287 zw_32 zw_288) rfl hd_X7_clear ⟨rfl, rfl⟩ ⟨Nat.le_of_ble_eq_true rfl, Nat.le_of_ble_eq_true rfl⟩ 4 7 rfl rfl rfl hl.1 rfl (Nat.le_of_ble_eq_true rfl) dX9_forget_28 hP hD hS hA hK hG (isC := [4]) rfl rfl rfl (w2 := (ws_X9_forget cI cJ cZ cA q_S q_S_people q_S_talks q_S_dues q_S_sights q_S_settings u_S_rule u_S_stake u_S_people_width u_S_people_limit u_S_people_cells u_S_talks_width u_S_talks_limit u_S_talks_cells u_S_dues_width u_S_dues_limit u_S_dues_cells u_S_sights_width u_S_sights_limit u_S_sights_cells v1.2 v3.2 v5.2 v7.2 a_S_settings)) rfl (st1 := [.int v7.1]) rfl (fun H locs hP hD hS => ?_)
  refine lv_pop hx hb dX9_forget_31 rfl ?_
  refine lv_aload_n hx hb dX9_forget_32 rfl (lv_at hl 0 rfl) ?_
  refine zget (C := RX9) (T := TX9) (N := 7) S hK hP 0 rfl rfl 5 (Nat.le_of_ble_eq_true rfl) zf_9 zw_85 rfl dX9_forget_33 ?_
  refine lv_iconst (v := 0) hx hb dX9_forget_36 (by decide) ?_
  refine lv_iconst (v := 1) hx hb dX9_forget_37 (by decide) ?_
  refine ziast hx hb hK hP hD hS 5 0 rfl rfl (j := 0) (zin (by decide)) (by decide) dX9_forget_38 (w2 := (ws_X9_forget cI cJ cZ cA q_S q_S_people q_S_talks q_S_dues q_S_sights q_S_settings u_S_rule u_S_stake u_S_people_width u_S_people_limit u_S_people_cells u_S_talks_width u_S_talks_limit u_S_talks_cells u_S_dues_width u_S_dues_limit u_S_dues_cells u_S_sights_width u_S_sights_limit u_S_sights_cells v1.2 v3.2 v5.2 v7.2 (upd a_S_settings 0 1))) rfl (fun H locs hP hD hS => ?_)
  refine lv_aload_n hx hb dX9_forget_39 rfl (lv_at hl 0 rfl) ?_
  refine zget (C := RX9) (T := TX9) (N := 7) S hK hP 0 rfl rfl 5 (Nat.le_of_ble_eq_true rfl) zf_9 zw_85 rfl dX9_forget_40 ?_
  refine lv_iconst (v := 1) hx hb dX9_forget_43 (by decide) ?_
  refine lv_iconst (v := 0) hx hb dX9_forget_44 (by decide) ?_
  refine ziast hx hb hK hP hD hS 5 0 rfl rfl (j := 1) (zin (by decide)) (by decide) dX9_forget_45 (w2 := (ws_X9_forget cI cJ cZ cA q_S q_S_people q_S_talks q_S_dues q_S_sights q_S_settings u_S_rule u_S_stake u_S_people_width u_S_people_limit u_S_people_cells u_S_talks_width u_S_talks_limit u_S_talks_cells u_S_dues_width u_S_dues_limit u_S_dues_cells u_S_sights_width u_S_sights_limit u_S_sights_cells v1.2 v3.2 v5.2 v7.2 (upd (upd a_S_settings 0 1) 1 0))) rfl (fun H locs hP hD hS => ?_)
  refine lv_aload_n hx hb dX9_forget_46 rfl (lv_at hl 0 rfl) ?_
  refine zget (C := RX9) (T := TX9) (N := 7) S hK hP 0 rfl rfl 5 (Nat.le_of_ble_eq_true rfl) zf_9 zw_85 rfl dX9_forget_47 ?_
  refine lv_iconst (v := 2) hx hb dX9_forget_50 (by decide) ?_
  refine lv_bipush (v := 60) hx hb dX9_forget_51 (by decide) ?_
  refine ziast hx hb hK hP hD hS 5 0 rfl rfl (j := 2) (zin (by decide)) (by decide) dX9_forget_53 (w2 := (ws_X9_forget cI cJ cZ cA q_S q_S_people q_S_talks q_S_dues q_S_sights q_S_settings u_S_rule u_S_stake u_S_people_width u_S_people_limit u_S_people_cells u_S_talks_width u_S_talks_limit u_S_talks_cells u_S_dues_width u_S_dues_limit u_S_dues_cells u_S_sights_width u_S_sights_limit u_S_sights_cells v1.2 v3.2 v5.2 v7.2 (upd (upd (upd a_S_settings 0 1) 1 0) 2 60))) rfl (fun H locs hP hD hS => ?_)
  exact hret v1.2 v3.2 v5.2 v7.2 (upd (upd (upd a_S_settings 0 1) 1 0) 2 60) hg _ _ _ _ hP hS dX9_forget_54

/-! SpokenClock.write(I)I -/
abbrev ws_X10_write (cI cJ cZ cA : ClassId) (q_X q_X_refusals q_X_now q_X_now_rule q_X_rule q_X_day q_X_plan q_X_guess q_X_now_rule_cells : Nat) (u_X_draft : Value) (u_X_text : Value) (u_X_reader : Value) (u_X_quarrel : Value) (u_X_fraction : Value) (u_X_firstImage : Value) (u_X_secondImage : Value) (u_X_kept : Value) (u_X_now_people : Value) (u_X_now_talks : Value) (u_X_now_dues : Value) (u_X_now_sights : Value) (u_X_now_settings : Value) (u_X_now_stake : Value) (u_X_rule_row : Value) (u_X_rule_stack : Value) (u_X_rule_known : Value) (u_X_rule_size : Value) (u_X_rule_place : Value) (u_X_rule_fault : Value) (u_X_day_talkers : Value) (u_X_day_clocks : Value) (u_X_plan_most : Value) (u_X_plan_steps : Value) (u_X_plan_price : Value) (u_X_guess_seen : Value) (u_X_guess_sets : Value) (u_X_guess_least : Value) (u_X_guess_surely : Value) (N_X_now_rule_cells : Nat) (a_X_refusals : Nat → Int32) (v_X_now_rule_width : Int32) (v_X_now_rule_limit : Int32) (v_X_now_rule_size : Int32) (v_X_rule_isStale : Int32) (v_X_day_isStale : Int32) (v_X_plan_isStale : Int32) (v_X_guess_isStale : Int32) (a_X_now_rule_cells : Nat → Int32) : va_W := [(q_X, .inr (10, [.ref q_X_now, u_X_draft, u_X_text, u_X_reader, .ref q_X_rule, .ref q_X_day, .ref q_X_plan, .ref q_X_guess, u_X_quarrel, u_X_fraction, u_X_firstImage, u_X_secondImage, u_X_kept, .ref q_X_refusals])), (q_X_refusals, .inl (cI, 3, .inl a_X_refusals)), (q_X_now, .inr (9, [u_X_now_people, u_X_now_talks, u_X_now_dues, u_X_now_sights, .ref q_X_now_rule, u_X_now_settings, u_X_now_stake])), (q_X_now_rule, .inr (7, [.int v_X_now_rule_width, .int v_X_now_rule_limit, .ref q_X_now_rule_cells, .int v_X_now_rule_size])), (q_X_rule, .inr (8, [.ref q_X_now, u_X_rule_row, u_X_rule_stack, u_X_rule_known, u_X_rule_size, u_X_rule_place, u_X_rule_fault, .int v_X_rule_isStale])), (q_X_day, .inr (1, [.ref q_X_now, .ref q_X_rule, u_X_day_talkers, u_X_day_clocks, .int v_X_day_isStale])), (q_X_plan, .inr (4, [.ref q_X_now, u_X_plan_most, u_X_plan_steps, u_X_plan_price, .int v_X_plan_isStale])), (q_X_guess, .inr (3, [.ref q_X_now, .ref q_X_day, u_X_guess_seen, u_X_guess_sets, u_X_guess_least, u_X_guess_surely, .int v_X_guess_isStale])), (q_X_now_rule_cells, .inl (cI, N_X_now_rule_cells, .inl a_X_now_rule_cells))]
abbrev rm_X10_write : Room := { frames := 2, cells := 0, slots := 0, locals := 44 }
def g_X10_write_10 (N_X_now_rule_cells : Nat) (v_X_now_rule_width : Int32) (v_X_now_rule_limit : Int32) (x1 : Int32) (a_X_refusals : Nat → Int32) (v_X_now_rule_size : Int32) (v_X_rule_isStale : Int32) (v_X_day_isStale : Int32) (v_X_plan_isStale : Int32) (v_X_guess_isStale : Int32) (a_X_now_rule_cells : Nat → Int32) : Option (Int32 × (Nat → Int32) × Int32 × Int32 × Int32 × Int32 × Int32 × (Nat → Int32)) :=
  (g_X10_refuse (-2) a_X_refusals).bind fun v1 =>
  some (v1.1, v1.2, v_X_now_rule_size, v_X_rule_isStale, v_X_day_isStale, v_X_plan_isStale, v_X_guess_isStale, a_X_now_rule_cells)
def g_X10_write (N_X_now_rule_cells : Nat) (v_X_now_rule_width : Int32) (v_X_now_rule_limit : Int32) (x1 : Int32) (a_X_refusals : Nat → Int32) (v_X_now_rule_size : Int32) (v_X_rule_isStale : Int32) (v_X_day_isStale : Int32) (v_X_plan_isStale : Int32) (v_X_guess_isStale : Int32) (a_X_now_rule_cells : Nat → Int32) : Option (Int32 × (Nat → Int32) × Int32 × Int32 × Int32 × Int32 × Int32 × (Nat → Int32)) :=
  if x1 < 0 then (
    g_X10_write_10 N_X_now_rule_cells v_X_now_rule_width v_X_now_rule_limit x1 a_X_refusals v_X_now_rule_size v_X_rule_isStale v_X_day_isStale v_X_plan_isStale v_X_guess_isStale a_X_now_rule_cells
  ) else (
    if x1 ≤ 127 then (
      (g_X7_isFull v_X_now_rule_limit v_X_now_rule_size).bind fun v3 =>
      if v3 = 0 then (
        (g_X10_changed v_X_rule_isStale v_X_day_isStale v_X_plan_isStale v_X_guess_isStale).bind fun v5 =>
        (g_X7_add N_X_now_rule_cells v_X_now_rule_width v_X_now_rule_limit x1 0 0 v_X_now_rule_size a_X_now_rule_cells).bind fun v7 =>
        some (v7.1 + 1, a_X_refusals, v7.2.1, v5.1, v5.2.1, v5.2.2.1, v5.2.2.2, v7.2.2)
      ) else (
        (g_X10_refuse (-4) a_X_refusals).bind fun v9 =>
        some (v9.1, v9.2, v_X_now_rule_size, v_X_rule_isStale, v_X_day_isStale, v_X_plan_isStale, v_X_guess_isStale, a_X_now_rule_cells)
      )
    ) else (
      g_X10_write_10 N_X_now_rule_cells v_X_now_rule_width v_X_now_rule_limit x1 a_X_refusals v_X_now_rule_size v_X_rule_isStale v_X_day_isStale v_X_plan_isStale v_X_guess_isStale a_X_now_rule_cells
    )
  )
theorem hd_X10_write : yX10_write.cls = RX10 ∧ yX10_write.cls ≠ "java/lang/invoke/MethodHandle" ∧ yX10_write.cls ≠ "java/lang/invoke/VarHandle" ∧ (parseMethodDescriptor yX10_write.desc).map (fun d => d.parameters.length) = some 1 := by decide +kernel
set_option maxHeartbeats 4000000 in
set_option maxRecDepth 100000 in
theorem c_X10_write (l : Launch) (D : va_G) (cI cJ cZ cA : ClassId) (ga : Nat → Nat) (q_X q_X_refusals q_X_now q_X_now_rule q_X_rule q_X_day q_X_plan q_X_guess q_X_now_rule_cells : Nat) (u_X_draft : Value) (u_X_text : Value) (u_X_reader : Value) (u_X_quarrel : Value) (u_X_fraction : Value) (u_X_firstImage : Value) (u_X_secondImage : Value) (u_X_kept : Value) (u_X_now_people : Value) (u_X_now_talks : Value) (u_X_now_dues : Value) (u_X_now_sights : Value) (u_X_now_settings : Value) (u_X_now_stake : Value) (u_X_rule_row : Value) (u_X_rule_stack : Value) (u_X_rule_known : Value) (u_X_rule_size : Value) (u_X_rule_place : Value) (u_X_rule_fault : Value) (u_X_day_talkers : Value) (u_X_day_clocks : Value) (u_X_plan_most : Value) (u_X_plan_steps : Value) (u_X_plan_price : Value) (u_X_guess_seen : Value) (u_X_guess_sets : Value) (u_X_guess_least : Value) (u_X_guess_surely : Value) (N_X_now_rule_cells : Nat) (a_X_refusals : Nat → Int32) (v_X_now_rule_width : Int32) (v_X_now_rule_limit : Int32) (v_X_now_rule_size : Int32) (v_X_rule_isStale : Int32) (v_X_day_isStale : Int32) (v_X_plan_isStale : Int32) (v_X_guess_isStale : Int32) (a_X_now_rule_cells : Nat → Int32) (x1 : Int32) (o : Int32 × (Nat → Int32) × Int32 × Int32 × Int32 × Int32 × Int32 × (Nat → Int32)) (hg : g_X10_write N_X_now_rule_cells v_X_now_rule_width v_X_now_rule_limit x1 a_X_refusals v_X_now_rule_size v_X_rule_isStale v_X_day_isStale v_X_plan_isStale v_X_guess_isStale a_X_now_rule_cells = some o) : zM l yX10_write (Cond.code yX10_write cX10_write 2 (some .int) :: wsL_law) rm_X10_write D (zTy cI cJ cZ cA) ga [.ref q_X, .int x1] (ws_X10_write cI cJ cZ cA q_X q_X_refusals q_X_now q_X_now_rule q_X_rule q_X_day q_X_plan q_X_guess q_X_now_rule_cells u_X_draft u_X_text u_X_reader u_X_quarrel u_X_fraction u_X_firstImage u_X_secondImage u_X_kept u_X_now_people u_X_now_talks u_X_now_dues u_X_now_sights u_X_now_settings u_X_now_stake u_X_rule_row u_X_rule_stack u_X_rule_known u_X_rule_size u_X_rule_place u_X_rule_fault u_X_day_talkers u_X_day_clocks u_X_plan_most u_X_plan_steps u_X_plan_price u_X_guess_seen u_X_guess_sets u_X_guess_least u_X_guess_surely N_X_now_rule_cells a_X_refusals v_X_now_rule_width v_X_now_rule_limit v_X_now_rule_size v_X_rule_isStale v_X_day_isStale v_X_plan_isStale v_X_guess_isStale a_X_now_rule_cells) (ws_X10_write cI cJ cZ cA q_X q_X_refusals q_X_now q_X_now_rule q_X_rule q_X_day q_X_plan q_X_guess q_X_now_rule_cells u_X_draft u_X_text u_X_reader u_X_quarrel u_X_fraction u_X_firstImage u_X_secondImage u_X_kept u_X_now_people u_X_now_talks u_X_now_dues u_X_now_sights u_X_now_settings u_X_now_stake u_X_rule_row u_X_rule_stack u_X_rule_known u_X_rule_size u_X_rule_place u_X_rule_fault u_X_day_talkers u_X_day_clocks u_X_plan_most u_X_plan_steps u_X_plan_price u_X_guess_seen u_X_guess_sets u_X_guess_least u_X_guess_surely N_X_now_rule_cells o.2.1 v_X_now_rule_width v_X_now_rule_limit o.2.2.1 o.2.2.2.1 o.2.2.2.2.1 o.2.2.2.2.2.1 o.2.2.2.2.2.2.1 o.2.2.2.2.2.2.2) (some (.int o.1)) := by
  refine zenterI (own := RX10) (by decide) rfl rfl (Nat.le_of_ble_eq_true rfl) ?_
  intro p e s m args below meth c A ls Q S hA hK hG hl hP hD hS hret0
  have hx := S.1
  have hb := S.2.1
  have ht : ∀ w, w ∈ wsL_law → w.before args s = true := fun w h => S.2.2.2.2 w (List.mem_cons_of_mem _ h)
  have hret : ∀ (r9 : Int32) (a_X_refusals : Nat → Int32) (v_X_now_rule_size : Int32) (v_X_rule_isStale : Int32) (v_X_day_isStale : Int32) (v_X_plan_isStale : Int32) (v_X_guess_isStale : Int32) (a_X_now_rule_cells : Nat → Int32), (some (r9, a_X_refusals, v_X_now_rule_size, v_X_rule_isStale, v_X_day_isStale, v_X_plan_isStale, v_X_guess_isStale, a_X_now_rule_cells) : Option (Int32 × (Nat → Int32) × Int32 × Int32 × Int32 × Int32 × Int32 × (Nat → Int32))) = some o → ∀ (H : Heap) (locs : List Loc) (pc : Nat) (ls : Array Slot), va_P D vwCl (ws_X10_write cI cJ cZ cA q_X q_X_refusals q_X_now q_X_now_rule q_X_rule q_X_day q_X_plan q_X_guess q_X_now_rule_cells u_X_draft u_X_text u_X_reader u_X_quarrel u_X_fraction u_X_firstImage u_X_secondImage u_X_kept u_X_now_people u_X_now_talks u_X_now_dues u_X_now_sights u_X_now_settings u_X_now_stake u_X_rule_row u_X_rule_stack u_X_rule_known u_X_rule_size u_X_rule_place u_X_rule_fault u_X_day_talkers u_X_day_clocks u_X_plan_most u_X_plan_steps u_X_plan_price u_X_guess_seen u_X_guess_sets u_X_guess_least u_X_guess_surely N_X_now_rule_cells a_X_refusals v_X_now_rule_width v_X_now_rule_limit v_X_now_rule_size v_X_rule_isStale v_X_day_isStale v_X_plan_isStale v_X_guess_isStale a_X_now_rule_cells) H → va_S A s.heap H locs → decode cX10_write pc = .ok (.ireturn, 1) → W p l e rm_X10_write s m args below meth c H locs 0 0 Q (F0 m pc ls [.int r9]) := by
    intro r9 a_X_refusals v_X_now_rule_size v_X_rule_isStale v_X_day_isStale v_X_plan_isStale v_X_guess_isStale a_X_now_rule_cells he; cases he; exact hret0
  have hl : lv_has ls 2 [(0, .ref q_X), (1, .int x1)] := hl
  have B10 : ∀ (a_X_refusals : Nat → Int32) (v_X_now_rule_size : Int32) (v_X_rule_isStale : Int32) (v_X_day_isStale : Int32) (v_X_plan_isStale : Int32) (v_X_guess_isStale : Int32) (a_X_now_rule_cells : Nat → Int32) (H : Heap) (locs : List Loc) (ls : Array Slot) (hl : lv_has ls 2 [(0, .ref q_X)]) (hP : va_P D vwCl (ws_X10_write cI cJ cZ cA q_X q_X_refusals q_X_now q_X_now_rule q_X_rule q_X_day q_X_plan q_X_guess q_X_now_rule_cells u_X_draft u_X_text u_X_reader u_X_quarrel u_X_fraction u_X_firstImage u_X_secondImage u_X_kept u_X_now_people u_X_now_talks u_X_now_dues u_X_now_sights u_X_now_settings u_X_now_stake u_X_rule_row u_X_rule_stack u_X_rule_known u_X_rule_size u_X_rule_place u_X_rule_fault u_X_day_talkers u_X_day_clocks u_X_plan_most u_X_plan_steps u_X_plan_price u_X_guess_seen u_X_guess_sets u_X_guess_least u_X_guess_surely N_X_now_rule_cells a_X_refusals v_X_now_rule_width v_X_now_rule_limit v_X_now_rule_size v_X_rule_isStale v_X_day_isStale v_X_plan_isStale v_X_guess_isStale a_X_now_rule_cells) H) (hD : va_D A (ws_X10_write cI cJ cZ cA q_X q_X_refusals q_X_now q_X_now_rule q_X_rule q_X_day q_X_plan q_X_guess q_X_now_rule_cells u_X_draft u_X_text u_X_reader u_X_quarrel u_X_fraction u_X_firstImage u_X_secondImage u_X_kept u_X_now_people u_X_now_talks u_X_now_dues u_X_now_sights u_X_now_settings u_X_now_stake u_X_rule_row u_X_rule_stack u_X_rule_known u_X_rule_size u_X_rule_place u_X_rule_fault u_X_day_talkers u_X_day_clocks u_X_plan_most u_X_plan_steps u_X_plan_price u_X_guess_seen u_X_guess_sets u_X_guess_least u_X_guess_surely N_X_now_rule_cells a_X_refusals v_X_now_rule_width v_X_now_rule_limit v_X_now_rule_size v_X_rule_isStale v_X_day_isStale v_X_plan_isStale v_X_guess_isStale a_X_now_rule_cells)) (hS : va_S A s.heap H locs), g_X10_write_10 N_X_now_rule_cells v_X_now_rule_width v_X_now_rule_limit x1 a_X_refusals v_X_now_rule_size v_X_rule_isStale v_X_day_isStale v_X_plan_isStale v_X_guess_isStale a_X_now_rule_cells = some o → W p l e rm_X10_write s m args below meth c H locs 0 0 Q (F0 m 10 ls []) := by
    intro  a_X_refusals v_X_now_rule_size v_X_rule_isStale v_X_day_isStale v_X_plan_isStale v_X_guess_isStale a_X_now_rule_cells H locs ls hl hP hD hS hg
    refine lv_aload_n hx hb dX10_write_10 rfl (lv_at hl 0 rfl) ?_
    refine lv_bipush (v := (-2)) hx hb dX10_write_11 (by decide) ?_
    obtain ⟨v1, hc2, hg⟩ := zbd hg
    refine zcallV (rest := []) S (c_X10_refuse l D cI cJ cZ cA ga q_X q_X_refusals (.ref q_X_now) u_X_draft u_X_text u_X_reader (.ref q_X_rule) (.ref q_X_day) (.ref q_X_plan) (.ref q_X_guess) u_X_quarrel u_X_fraction u_X_firstImage u_X_secondImage u_X_kept a_X_refusals (-2) v1 hc2) (zgV zw_184 zw_185 zw_186 zw_2 zw_187) rfl hd_X10_refuse ⟨rfl, rfl⟩ ⟨Nat.le_of_ble_eq_true rfl, Nat.le_of_ble_eq_true rfl⟩ 0 10 rfl rfl rfl hl.1 rfl (Nat.le_of_ble_eq_true rfl) dX10_write_13 hP hD hS hA hK hG (isC := [0, 1]) rfl rfl rfl (w2 := (ws_X10_write cI cJ cZ cA q_X q_X_refusals q_X_now q_X_now_rule q_X_rule q_X_day q_X_plan q_X_guess q_X_now_rule_cells u_X_draft u_X_text u_X_reader u_X_quarrel u_X_fraction u_X_firstImage u_X_secondImage u_X_kept u_X_now_people u_X_now_talks u_X_now_dues u_X_now_sights u_X_now_settings u_X_now_stake u_X_rule_row u_X_rule_stack u_X_rule_known u_X_rule_size u_X_rule_place u_X_rule_fault u_X_day_talkers u_X_day_clocks u_X_plan_most u_X_plan_steps u_X_plan_price u_X_guess_seen u_X_guess_sets u_X_guess_least u_X_guess_surely N_X_now_rule_cells v1.2 v_X_now_rule_width v_X_now_rule_limit v_X_now_rule_size v_X_rule_isStale v_X_day_isStale v_X_plan_isStale v_X_guess_isStale a_X_now_rule_cells)) rfl (st1 := [.int v1.1]) rfl (fun H locs hP hD hS => ?_)
    exact hret v1.1 v1.2 v_X_now_rule_size v_X_rule_isStale v_X_day_isStale v_X_plan_isStale v_X_guess_isStale a_X_now_rule_cells hg _ _ _ _ hP hS dX10_write_16
  refine lv_iload_n hx hb dX10_write_0 rfl (lv_at hl 1 rfl) ?_
  refine lv_if_lt (tgt := 10) hx hb dX10_write_1 (by decide) (fun h1 => ?_) (fun h1 => ?_)
  · have hg := zp hg h1
    exact B10 a_X_refusals v_X_now_rule_size v_X_rule_isStale v_X_day_isStale v_X_plan_isStale v_X_guess_isStale a_X_now_rule_cells _ _ _ (lv_sub hl [0] rfl) hP hD hS hg
  · have hg := zn hg h1
    refine lv_iload_n hx hb dX10_write_4 rfl (lv_at hl 1 rfl) ?_
    refine lv_bipush (v := 127) hx hb dX10_write_5 (by decide) ?_
    refine lv_icmp_le (tgt := 17) hx hb dX10_write_7 (by decide) (fun h7 => ?_) (fun h7 => ?_)
    · have hg := zp hg h7
      refine lv_aload_n hx hb dX10_write_17 rfl (lv_at hl 0 rfl) ?_
      refine zget (C := RX10) (T := TX10) (N := 14) S hK hP 0 rfl rfl 0 (Nat.le_of_ble_eq_true rfl) zf_10 zw_51 rfl dX10_write_18 ?_
      refine zget (C := RX9) (T := TX9) (N := 7) S hK hP 2 rfl rfl 4 (Nat.le_of_ble_eq_true rfl) zf_9 zw_515 rfl dX10_write_21 ?_
      obtain ⟨v3, hc4, hg⟩ := zbd hg
      refine zcallV (rest := []) S (c_X7_isFull l D cI cJ cZ cA ga q_X_now_rule (.int v_X_now_rule_width) (.ref q_X_now_rule_cells) v_X_now_rule_limit v_X_now_rule_size v3 hc4) (zgV zw_240 zw_241 zw_242 zw_32 zw_243) rfl hd_X7_isFull ⟨rfl, rfl⟩ ⟨Nat.le_of_ble_eq_true rfl, Nat.le_of_ble_eq_true rfl⟩ 3 7 rfl rfl rfl hl.1 rfl (Nat.le_of_ble_eq_true rfl) dX10_write_24 hP hD hS hA hK hG (isC := [3]) rfl rfl rfl (w2 := (ws_X10_write cI cJ cZ cA q_X q_X_refusals q_X_now q_X_now_rule q_X_rule q_X_day q_X_plan q_X_guess q_X_now_rule_cells u_X_draft u_X_text u_X_reader u_X_quarrel u_X_fraction u_X_firstImage u_X_secondImage u_X_kept u_X_now_people u_X_now_talks u_X_now_dues u_X_now_sights u_X_now_settings u_X_now_stake u_X_rule_row u_X_rule_stack u_X_rule_known u_X_rule_size u_X_rule_place u_X_rule_fault u_X_day_talkers u_X_day_clocks u_X_plan_most u_X_plan_steps u_X_plan_price u_X_guess_seen u_X_guess_sets u_X_guess_least u_X_guess_surely N_X_now_rule_cells a_X_refusals v_X_now_rule_width v_X_now_rule_limit v_X_now_rule_size v_X_rule_isStale v_X_day_isStale v_X_plan_isStale v_X_guess_isStale a_X_now_rule_cells)) rfl (st1 := [.int v3]) rfl (fun H locs hP hD hS => ?_)
      refine lv_if_eq (tgt := 37) hx hb dX10_write_27 (by decide) (fun h27 => ?_) (fun h27 => ?_)
      · have hg := zp hg h27
        refine lv_aload_n hx hb dX10_write_37 rfl (lv_at hl 0 rfl) ?_
        obtain ⟨v5, hc6, hg⟩ := zbd hg
        refine zcallV (rest := []) S (c_X10_changed l D cI cJ cZ cA ga q_X q_X_rule q_X_day q_X_plan q_X_guess (.ref q_X_now) u_X_draft u_X_text u_X_reader u_X_quarrel u_X_fraction u_X_firstImage u_X_secondImage u_X_kept (.ref q_X_refusals) (.ref q_X_now) u_X_rule_row u_X_rule_stack u_X_rule_known u_X_rule_size u_X_rule_place u_X_rule_fault (.ref q_X_now) u_X_day_talkers u_X_day_clocks (.ref q_X_now) u_X_plan_most u_X_plan_steps u_X_plan_price (.ref q_X_now) u_X_guess_seen u_X_guess_sets u_X_guess_least u_X_guess_surely v_X_rule_isStale v_X_day_isStale v_X_plan_isStale v_X_guess_isStale v5 hc6) (zgV zw_191 zw_192 zw_193 zw_2 zw_194) rfl hd_X10_changed ⟨rfl, rfl⟩ ⟨Nat.le_of_ble_eq_true rfl, Nat.le_of_ble_eq_true rfl⟩ 0 10 rfl rfl rfl hl.1 rfl (Nat.le_of_ble_eq_true rfl) dX10_write_38 hP hD hS hA hK hG (isC := [0, 4, 5, 6, 7]) rfl rfl rfl (w2 := (ws_X10_write cI cJ cZ cA q_X q_X_refusals q_X_now q_X_now_rule q_X_rule q_X_day q_X_plan q_X_guess q_X_now_rule_cells u_X_draft u_X_text u_X_reader u_X_quarrel u_X_fraction u_X_firstImage u_X_secondImage u_X_kept u_X_now_people u_X_now_talks u_X_now_dues u_X_now_sights u_X_now_settings u_X_now_stake u_X_rule_row u_X_rule_stack u_X_rule_known u_X_rule_size u_X_rule_place u_X_rule_fault u_X_day_talkers u_X_day_clocks u_X_plan_most u_X_plan_steps u_X_plan_price u_X_guess_seen u_X_guess_sets u_X_guess_least u_X_guess_surely N_X_now_rule_cells a_X_refusals v_X_now_rule_width v_X_now_rule_limit v_X_now_rule_size v5.1 v5.2.1 v5.2.2.1 v5.2.2.2 a_X_now_rule_cells)) rfl (st1 := []) rfl (fun H locs hP hD hS => ?_)
        refine lv_aload_n hx hb dX10_write_41 rfl (lv_at hl 0 rfl) ?_
        refine zget (C := RX10) (T := TX10) (N := 14) S hK hP 0 rfl rfl 0 (Nat.le_of_ble_eq_true rfl) zf_10 zw_51 rfl dX10_write_42 ?_
        refine zget (C := RX9) (T := TX9) (N := 7) S hK hP 2 rfl rfl 4 (Nat.le_of_ble_eq_true rfl) zf_9 zw_515 rfl dX10_write_45 ?_
        refine lv_iload_n hx hb dX10_write_48 rfl (lv_at hl 1 rfl) ?_
        refine lv_iconst (v := 0) hx hb dX10_write_49 (by decide) ?_
        refine lv_iconst (v := 0) hx hb dX10_write_50 (by decide) ?_
        obtain ⟨v7, hc8, hg⟩ := zbd hg
        refine zcallV (rest := []) S (c_X7_add l D cI cJ cZ cA ga q_X_now_rule q_X_now_rule_cells N_X_now_rule_cells v_X_now_rule_width v_X_now_rule_limit v_X_now_rule_size a_X_now_rule_cells x1 0 0 v7 hc8) (zgV zw_244 zw_245 zw_246 zw_32 zw_247) rfl hd_X7_add ⟨rfl, rfl⟩ ⟨Nat.le_of_ble_eq_true rfl, Nat.le_of_ble_eq_true rfl⟩ 3 7 rfl rfl rfl hl.1 rfl (Nat.le_of_ble_eq_true rfl) dX10_write_51 hP hD hS hA hK hG (isC := [3, 8]) rfl rfl rfl (w2 := (ws_X10_write cI cJ cZ cA q_X q_X_refusals q_X_now q_X_now_rule q_X_rule q_X_day q_X_plan q_X_guess q_X_now_rule_cells u_X_draft u_X_text u_X_reader u_X_quarrel u_X_fraction u_X_firstImage u_X_secondImage u_X_kept u_X_now_people u_X_now_talks u_X_now_dues u_X_now_sights u_X_now_settings u_X_now_stake u_X_rule_row u_X_rule_stack u_X_rule_known u_X_rule_size u_X_rule_place u_X_rule_fault u_X_day_talkers u_X_day_clocks u_X_plan_most u_X_plan_steps u_X_plan_price u_X_guess_seen u_X_guess_sets u_X_guess_least u_X_guess_surely N_X_now_rule_cells a_X_refusals v_X_now_rule_width v_X_now_rule_limit v7.2.1 v5.1 v5.2.1 v5.2.2.1 v5.2.2.2 v7.2.2)) rfl (st1 := [.int v7.1]) rfl (fun H locs hP hD hS => ?_)
        refine lv_iconst (v := 1) hx hb dX10_write_54 (by decide) ?_
        refine lv_iadd hx hb dX10_write_55 ?_
        exact hret (v7.1 + 1) a_X_refusals v7.2.1 v5.1 v5.2.1 v5.2.2.1 v5.2.2.2 v7.2.2 hg _ _ _ _ hP hS dX10_write_56
      · have hg := zn hg h27
        refine lv_aload_n hx hb dX10_write_30 rfl (lv_at hl 0 rfl) ?_
        refine lv_bipush (v := (-4)) hx hb dX10_write_31 (by decide) ?_
        obtain ⟨v9, hc10, hg⟩ := zbd hg
        refine zcallV (rest := []) S (c_X10_refuse l D cI cJ cZ cA ga q_X q_X_refusals (.ref q_X_now) u_X_draft u_X_text u_X_reader (.ref q_X_rule) (.ref q_X_day) (.ref q_X_plan) (.ref q_X_guess) u_X_quarrel u_X_fraction u_X_firstImage u_X_secondImage u_X_kept a_X_refusals (-4) v9 hc10) (zgV zw_184 zw_185 zw_186 zw_2 zw_187) rfl hd_X10_refuse ⟨rfl, rfl⟩ ⟨Nat.le_of_ble_eq_true rfl, Nat.le_of_ble_eq_true rfl⟩ 0 10 rfl rfl rfl hl.1 rfl (Nat.le_of_ble_eq_true rfl) dX10_write_33 hP hD hS hA hK hG (isC := [0, 1]) rfl rfl rfl (w2 := (ws_X10_write cI cJ cZ cA q_X q_X_refusals q_X_now q_X_now_rule q_X_rule q_X_day q_X_plan q_X_guess q_X_now_rule_cells u_X_draft u_X_text u_X_reader u_X_quarrel u_X_fraction u_X_firstImage u_X_secondImage u_X_kept u_X_now_people u_X_now_talks u_X_now_dues u_X_now_sights u_X_now_settings u_X_now_stake u_X_rule_row u_X_rule_stack u_X_rule_known u_X_rule_size u_X_rule_place u_X_rule_fault u_X_day_talkers u_X_day_clocks u_X_plan_most u_X_plan_steps u_X_plan_price u_X_guess_seen u_X_guess_sets u_X_guess_least u_X_guess_surely N_X_now_rule_cells v9.2 v_X_now_rule_width v_X_now_rule_limit v_X_now_rule_size v_X_rule_isStale v_X_day_isStale v_X_plan_isStale v_X_guess_isStale a_X_now_rule_cells)) rfl (st1 := [.int v9.1]) rfl (fun H locs hP hD hS => ?_)
        exact hret v9.1 v9.2 v_X_now_rule_size v_X_rule_isStale v_X_day_isStale v_X_plan_isStale v_X_guess_isStale a_X_now_rule_cells hg _ _ _ _ hP hS dX10_write_36
    · have hg := zn hg h7
      exact B10 a_X_refusals v_X_now_rule_size v_X_rule_isStale v_X_day_isStale v_X_plan_isStale v_X_guess_isStale a_X_now_rule_cells _ _ _ (lv_sub hl [0] rfl) hP hD hS hg

/-! SpokenClock.erase()I -/
abbrev ws_X10_erase (cI cJ cZ cA : ClassId) (q_X q_X_rule q_X_day q_X_plan q_X_guess q_X_now q_X_now_rule : Nat) (u_X_draft : Value) (u_X_text : Value) (u_X_reader : Value) (u_X_quarrel : Value) (u_X_fraction : Value) (u_X_firstImage : Value) (u_X_secondImage : Value) (u_X_kept : Value) (u_X_refusals : Value) (u_X_rule_row : Value) (u_X_rule_stack : Value) (u_X_rule_known : Value) (u_X_rule_size : Value) (u_X_rule_place : Value) (u_X_rule_fault : Value) (u_X_day_talkers : Value) (u_X_day_clocks : Value) (u_X_plan_most : Value) (u_X_plan_steps : Value) (u_X_plan_price : Value) (u_X_guess_seen : Value) (u_X_guess_sets : Value) (u_X_guess_least : Value) (u_X_guess_surely : Value) (u_X_now_people : Value) (u_X_now_talks : Value) (u_X_now_dues : Value) (u_X_now_sights : Value) (u_X_now_settings : Value) (u_X_now_stake : Value) (u_X_now_rule_width : Value) (u_X_now_rule_limit : Value) (u_X_now_rule_cells : Value) (v_X_rule_isStale : Int32) (v_X_day_isStale : Int32) (v_X_plan_isStale : Int32) (v_X_guess_isStale : Int32) (v_X_now_rule_size : Int32) : va_W := [(q_X, .inr (10, [.ref q_X_now, u_X_draft, u_X_text, u_X_reader, .ref q_X_rule, .ref q_X_day, .ref q_X_plan, .ref q_X_guess, u_X_quarrel, u_X_fraction, u_X_firstImage, u_X_secondImage, u_X_kept, u_X_refusals])), (q_X_rule, .inr (8, [.ref q_X_now, u_X_rule_row, u_X_rule_stack, u_X_rule_known, u_X_rule_size, u_X_rule_place, u_X_rule_fault, .int v_X_rule_isStale])), (q_X_day, .inr (1, [.ref q_X_now, .ref q_X_rule, u_X_day_talkers, u_X_day_clocks, .int v_X_day_isStale])), (q_X_plan, .inr (4, [.ref q_X_now, u_X_plan_most, u_X_plan_steps, u_X_plan_price, .int v_X_plan_isStale])), (q_X_guess, .inr (3, [.ref q_X_now, .ref q_X_day, u_X_guess_seen, u_X_guess_sets, u_X_guess_least, u_X_guess_surely, .int v_X_guess_isStale])), (q_X_now, .inr (9, [u_X_now_people, u_X_now_talks, u_X_now_dues, u_X_now_sights, .ref q_X_now_rule, u_X_now_settings, u_X_now_stake])), (q_X_now_rule, .inr (7, [u_X_now_rule_width, u_X_now_rule_limit, u_X_now_rule_cells, .int v_X_now_rule_size]))]
abbrev rm_X10_erase : Room := { frames := 2, cells := 0, slots := 0, locals := 40 }
def g_X10_erase (v_X_rule_isStale : Int32) (v_X_day_isStale : Int32) (v_X_plan_isStale : Int32) (v_X_guess_isStale : Int32) (v_X_now_rule_size : Int32) : Option (Int32 × Int32 × Int32 × Int32 × Int32 × Int32) :=
  (g_X10_changed v_X_rule_isStale v_X_day_isStale v_X_plan_isStale v_X_guess_isStale).bind fun v1 =>
  (g_X7_clear v_X_now_rule_size).bind fun v3 =>
  some (v3.1, v1.1, v1.2.1, v1.2.2.1, v1.2.2.2, v3.2)
theorem hd_X10_erase : yX10_erase.cls = RX10 ∧ yX10_erase.cls ≠ "java/lang/invoke/MethodHandle" ∧ yX10_erase.cls ≠ "java/lang/invoke/VarHandle" ∧ (parseMethodDescriptor yX10_erase.desc).map (fun d => d.parameters.length) = some 0 := by decide +kernel
set_option maxHeartbeats 4000000 in
set_option maxRecDepth 100000 in
theorem c_X10_erase (l : Launch) (D : va_G) (cI cJ cZ cA : ClassId) (ga : Nat → Nat) (q_X q_X_rule q_X_day q_X_plan q_X_guess q_X_now q_X_now_rule : Nat) (u_X_draft : Value) (u_X_text : Value) (u_X_reader : Value) (u_X_quarrel : Value) (u_X_fraction : Value) (u_X_firstImage : Value) (u_X_secondImage : Value) (u_X_kept : Value) (u_X_refusals : Value) (u_X_rule_row : Value) (u_X_rule_stack : Value) (u_X_rule_known : Value) (u_X_rule_size : Value) (u_X_rule_place : Value) (u_X_rule_fault : Value) (u_X_day_talkers : Value) (u_X_day_clocks : Value) (u_X_plan_most : Value) (u_X_plan_steps : Value) (u_X_plan_price : Value) (u_X_guess_seen : Value) (u_X_guess_sets : Value) (u_X_guess_least : Value) (u_X_guess_surely : Value) (u_X_now_people : Value) (u_X_now_talks : Value) (u_X_now_dues : Value) (u_X_now_sights : Value) (u_X_now_settings : Value) (u_X_now_stake : Value) (u_X_now_rule_width : Value) (u_X_now_rule_limit : Value) (u_X_now_rule_cells : Value) (v_X_rule_isStale : Int32) (v_X_day_isStale : Int32) (v_X_plan_isStale : Int32) (v_X_guess_isStale : Int32) (v_X_now_rule_size : Int32) (o : Int32 × Int32 × Int32 × Int32 × Int32 × Int32) (hg : g_X10_erase v_X_rule_isStale v_X_day_isStale v_X_plan_isStale v_X_guess_isStale v_X_now_rule_size = some o) : zM l yX10_erase (Cond.code yX10_erase cX10_erase 1 (some .int) :: wsL_law) rm_X10_erase D (zTy cI cJ cZ cA) ga [.ref q_X] (ws_X10_erase cI cJ cZ cA q_X q_X_rule q_X_day q_X_plan q_X_guess q_X_now q_X_now_rule u_X_draft u_X_text u_X_reader u_X_quarrel u_X_fraction u_X_firstImage u_X_secondImage u_X_kept u_X_refusals u_X_rule_row u_X_rule_stack u_X_rule_known u_X_rule_size u_X_rule_place u_X_rule_fault u_X_day_talkers u_X_day_clocks u_X_plan_most u_X_plan_steps u_X_plan_price u_X_guess_seen u_X_guess_sets u_X_guess_least u_X_guess_surely u_X_now_people u_X_now_talks u_X_now_dues u_X_now_sights u_X_now_settings u_X_now_stake u_X_now_rule_width u_X_now_rule_limit u_X_now_rule_cells v_X_rule_isStale v_X_day_isStale v_X_plan_isStale v_X_guess_isStale v_X_now_rule_size) (ws_X10_erase cI cJ cZ cA q_X q_X_rule q_X_day q_X_plan q_X_guess q_X_now q_X_now_rule u_X_draft u_X_text u_X_reader u_X_quarrel u_X_fraction u_X_firstImage u_X_secondImage u_X_kept u_X_refusals u_X_rule_row u_X_rule_stack u_X_rule_known u_X_rule_size u_X_rule_place u_X_rule_fault u_X_day_talkers u_X_day_clocks u_X_plan_most u_X_plan_steps u_X_plan_price u_X_guess_seen u_X_guess_sets u_X_guess_least u_X_guess_surely u_X_now_people u_X_now_talks u_X_now_dues u_X_now_sights u_X_now_settings u_X_now_stake u_X_now_rule_width u_X_now_rule_limit u_X_now_rule_cells o.2.1 o.2.2.1 o.2.2.2.1 o.2.2.2.2.1 o.2.2.2.2.2) (some (.int o.1)) := by
  refine zenterI (own := RX10) (by decide) rfl rfl (Nat.le_of_ble_eq_true rfl) ?_
  intro p e s m args below meth c A ls Q S hA hK hG hl hP hD hS hret0
  have hx := S.1
  have hb := S.2.1
  have ht : ∀ w, w ∈ wsL_law → w.before args s = true := fun w h => S.2.2.2.2 w (List.mem_cons_of_mem _ h)
  have hret : ∀ (r9 : Int32) (v_X_rule_isStale : Int32) (v_X_day_isStale : Int32) (v_X_plan_isStale : Int32) (v_X_guess_isStale : Int32) (v_X_now_rule_size : Int32), (some (r9, v_X_rule_isStale, v_X_day_isStale, v_X_plan_isStale, v_X_guess_isStale, v_X_now_rule_size) : Option (Int32 × Int32 × Int32 × Int32 × Int32 × Int32)) = some o → ∀ (H : Heap) (locs : List Loc) (pc : Nat) (ls : Array Slot), va_P D vwCl (ws_X10_erase cI cJ cZ cA q_X q_X_rule q_X_day q_X_plan q_X_guess q_X_now q_X_now_rule u_X_draft u_X_text u_X_reader u_X_quarrel u_X_fraction u_X_firstImage u_X_secondImage u_X_kept u_X_refusals u_X_rule_row u_X_rule_stack u_X_rule_known u_X_rule_size u_X_rule_place u_X_rule_fault u_X_day_talkers u_X_day_clocks u_X_plan_most u_X_plan_steps u_X_plan_price u_X_guess_seen u_X_guess_sets u_X_guess_least u_X_guess_surely u_X_now_people u_X_now_talks u_X_now_dues u_X_now_sights u_X_now_settings u_X_now_stake u_X_now_rule_width u_X_now_rule_limit u_X_now_rule_cells v_X_rule_isStale v_X_day_isStale v_X_plan_isStale v_X_guess_isStale v_X_now_rule_size) H → va_S A s.heap H locs → decode cX10_erase pc = .ok (.ireturn, 1) → W p l e rm_X10_erase s m args below meth c H locs 0 0 Q (F0 m pc ls [.int r9]) := by
    intro r9 v_X_rule_isStale v_X_day_isStale v_X_plan_isStale v_X_guess_isStale v_X_now_rule_size he; cases he; exact hret0
  have hl : lv_has ls 1 [(0, .ref q_X)] := hl
  refine lv_aload_n hx hb dX10_erase_0 rfl (lv_at hl 0 rfl) ?_
  obtain ⟨v1, hc2, hg⟩ := zbd hg
  refine zcallV (rest := []) S (c_X10_changed l D cI cJ cZ cA ga q_X q_X_rule q_X_day q_X_plan q_X_guess (.ref q_X_now) u_X_draft u_X_text u_X_reader u_X_quarrel u_X_fraction u_X_firstImage u_X_secondImage u_X_kept u_X_refusals (.ref q_X_now) u_X_rule_row u_X_rule_stack u_X_rule_known u_X_rule_size u_X_rule_place u_X_rule_fault (.ref q_X_now) u_X_day_talkers u_X_day_clocks (.ref q_X_now) u_X_plan_most u_X_plan_steps u_X_plan_price (.ref q_X_now) u_X_guess_seen u_X_guess_sets u_X_guess_least u_X_guess_surely v_X_rule_isStale v_X_day_isStale v_X_plan_isStale v_X_guess_isStale v1 hc2) (zgV zw_191 zw_192 zw_193 zw_2 zw_194) rfl hd_X10_changed ⟨rfl, rfl⟩ ⟨Nat.le_of_ble_eq_true rfl, Nat.le_of_ble_eq_true rfl⟩ 0 10 rfl rfl rfl hl.1 rfl (Nat.le_of_ble_eq_true rfl) dX10_erase_1 hP hD hS hA hK hG (isC := [0, 1, 2, 3, 4]) rfl rfl rfl (w2 := (ws_X10_erase cI cJ cZ cA q_X q_X_rule q_X_day q_X_plan q_X_guess q_X_now q_X_now_rule u_X_draft u_X_text u_X_reader u_X_quarrel u_X_fraction u_X_firstImage u_X_secondImage u_X_kept u_X_refusals u_X_rule_row u_X_rule_stack u_X_rule_known u_X_rule_size u_X_rule_place u_X_rule_fault u_X_day_talkers u_X_day_clocks u_X_plan_most u_X_plan_steps u_X_plan_price u_X_guess_seen u_X_guess_sets u_X_guess_least u_X_guess_surely u_X_now_people u_X_now_talks u_X_now_dues u_X_now_sights u_X_now_settings u_X_now_stake u_X_now_rule_width u_X_now_rule_limit u_X_now_rule_cells v1.1 v1.2.1 v1.2.2.1 v1.2.2.2 v_X_now_rule_size)) rfl (st1 := []) rfl (fun H locs hP hD hS => ?_)
  refine lv_aload_n hx hb dX10_erase_4 rfl (lv_at hl 0 rfl) ?_
  refine zget (C := RX10) (T := TX10) (N := 14) S hK hP 0 rfl rfl 0 (Nat.le_of_ble_eq_true rfl) zf_10 zw_51 rfl dX10_erase_5 ?_
  refine zget (C := RX9) (T := TX9) (N := 7) S hK hP 5 rfl rfl 4 (Nat.le_of_ble_eq_true rfl) zf_9 zw_515 rfl dX10_erase_8 ?_
  obtain ⟨v3, hc4, hg⟩ := zbd hg
  refine zcallV (rest := []) S (c_X7_clear l D cI cJ cZ cA ga q_X_now_rule u_X_now_rule_width u_X_now_rule_limit u_X_now_rule_cells v_X_now_rule_size v3 hc4) (zgV zw_285 zw_286 zw_287 zw_32 zw_288) rfl hd_X7_clear ⟨rfl, rfl⟩ ⟨Nat.le_of_ble_eq_true rfl, Nat.le_of_ble_eq_true rfl⟩ 6 7 rfl rfl rfl hl.1 rfl (Nat.le_of_ble_eq_true rfl) dX10_erase_11 hP hD hS hA hK hG (isC := [6]) rfl rfl rfl (w2 := (ws_X10_erase cI cJ cZ cA q_X q_X_rule q_X_day q_X_plan q_X_guess q_X_now q_X_now_rule u_X_draft u_X_text u_X_reader u_X_quarrel u_X_fraction u_X_firstImage u_X_secondImage u_X_kept u_X_refusals u_X_rule_row u_X_rule_stack u_X_rule_known u_X_rule_size u_X_rule_place u_X_rule_fault u_X_day_talkers u_X_day_clocks u_X_plan_most u_X_plan_steps u_X_plan_price u_X_guess_seen u_X_guess_sets u_X_guess_least u_X_guess_surely u_X_now_people u_X_now_talks u_X_now_dues u_X_now_sights u_X_now_settings u_X_now_stake u_X_now_rule_width u_X_now_rule_limit u_X_now_rule_cells v1.1 v1.2.1 v1.2.2.1 v1.2.2.2 v3.2)) rfl (st1 := [.int v3.1]) rfl (fun H locs hP hD hS => ?_)
  exact hret v3.1 v1.1 v1.2.1 v1.2.2.1 v1.2.2.2 v3.2 hg _ _ _ _ hP hS dX10_erase_14

/-! SpokenClock$Rule.firstFault()I -/
abbrev ws_X8_firstFault (cI cJ cZ cA : ClassId) (q_X_rule : Nat) (u_X_rule_state : Value) (u_X_rule_row : Value) (u_X_rule_stack : Value) (u_X_rule_known : Value) (u_X_rule_size : Value) (u_X_rule_place : Value) (u_X_rule_isStale : Value) (v_X_rule_fault : Int32) : va_W := [(q_X_rule, .inr (8, [u_X_rule_state, u_X_rule_row, u_X_rule_stack, u_X_rule_known, u_X_rule_size, u_X_rule_place, .int v_X_rule_fault, u_X_rule_isStale]))]
abbrev rm_X8_firstFault : Room := { frames := 0, cells := 0, slots := 0, locals := 0 }
def g_X8_firstFault (v_X_rule_fault : Int32) : Option (Int32) :=
  some (v_X_rule_fault)
theorem hd_X8_firstFault : yX8_firstFault.cls = RX8 ∧ yX8_firstFault.cls ≠ "java/lang/invoke/MethodHandle" ∧ yX8_firstFault.cls ≠ "java/lang/invoke/VarHandle" ∧ (parseMethodDescriptor yX8_firstFault.desc).map (fun d => d.parameters.length) = some 0 := by decide +kernel
set_option maxHeartbeats 4000000 in
set_option maxRecDepth 100000 in
theorem c_X8_firstFault (l : Launch) (D : va_G) (cI cJ cZ cA : ClassId) (ga : Nat → Nat) (q_X_rule : Nat) (u_X_rule_state : Value) (u_X_rule_row : Value) (u_X_rule_stack : Value) (u_X_rule_known : Value) (u_X_rule_size : Value) (u_X_rule_place : Value) (u_X_rule_isStale : Value) (v_X_rule_fault : Int32) (o : Int32) (hg : g_X8_firstFault v_X_rule_fault = some o) : zM l yX8_firstFault (Cond.code yX8_firstFault cX8_firstFault 1 (some .int) :: wsL_law) rm_X8_firstFault D (zTy cI cJ cZ cA) ga [.ref q_X_rule] (ws_X8_firstFault cI cJ cZ cA q_X_rule u_X_rule_state u_X_rule_row u_X_rule_stack u_X_rule_known u_X_rule_size u_X_rule_place u_X_rule_isStale v_X_rule_fault) (ws_X8_firstFault cI cJ cZ cA q_X_rule u_X_rule_state u_X_rule_row u_X_rule_stack u_X_rule_known u_X_rule_size u_X_rule_place u_X_rule_isStale v_X_rule_fault) (some (.int o)) := by
  refine zenterI (own := RX8) (by decide) rfl rfl (Nat.le_of_ble_eq_true rfl) ?_
  intro p e s m args below meth c A ls Q S hA hK hG hl hP hD hS hret0
  have hx := S.1
  have hb := S.2.1
  have ht : ∀ w, w ∈ wsL_law → w.before args s = true := fun w h => S.2.2.2.2 w (List.mem_cons_of_mem _ h)
  have hret : ∀ (r9 : Int32), (some (r9) : Option (Int32)) = some o → ∀ (H : Heap) (locs : List Loc) (pc : Nat) (ls : Array Slot), va_P D vwCl (ws_X8_firstFault cI cJ cZ cA q_X_rule u_X_rule_state u_X_rule_row u_X_rule_stack u_X_rule_known u_X_rule_size u_X_rule_place u_X_rule_isStale v_X_rule_fault) H → va_S A s.heap H locs → decode cX8_firstFault pc = .ok (.ireturn, 1) → W p l e rm_X8_firstFault s m args below meth c H locs 0 0 Q (F0 m pc ls [.int r9]) := by
    intro r9 he; cases he; exact hret0
  have hl : lv_has ls 1 [(0, .ref q_X_rule)] := hl
  refine lv_aload_n hx hb dX8_firstFault_0 rfl (lv_at hl 0 rfl) ?_
  refine zget (C := RX8) (T := TX8) (N := 8) S hK hP 0 rfl rfl 6 (Nat.le_of_ble_eq_true rfl) zf_8 zw_539 rfl dX8_firstFault_1 ?_
  exact hret v_X_rule_fault hg _ _ _ _ hP hS dX8_firstFault_4

/-! SpokenClock$Rule.ahead()I -/
abbrev ws_X8_ahead (cI cJ cZ cA : ClassId) (q_X_rule q_X_now q_X_now_rule q_X_now_rule_cells : Nat) (u_X_rule_row : Value) (u_X_rule_stack : Value) (u_X_rule_known : Value) (u_X_rule_size : Value) (u_X_rule_fault : Value) (u_X_rule_isStale : Value) (u_X_now_people : Value) (u_X_now_talks : Value) (u_X_now_dues : Value) (u_X_now_sights : Value) (u_X_now_settings : Value) (u_X_now_stake : Value) (u_X_now_rule_limit : Value) (N_X_now_rule_cells : Nat) (v_X_rule_place : Int32) (v_X_now_rule_width : Int32) (v_X_now_rule_size : Int32) (a_X_now_rule_cells : Nat → Int32) : va_W := [(q_X_rule, .inr (8, [.ref q_X_now, u_X_rule_row, u_X_rule_stack, u_X_rule_known, u_X_rule_size, .int v_X_rule_place, u_X_rule_fault, u_X_rule_isStale])), (q_X_now, .inr (9, [u_X_now_people, u_X_now_talks, u_X_now_dues, u_X_now_sights, .ref q_X_now_rule, u_X_now_settings, u_X_now_stake])), (q_X_now_rule, .inr (7, [.int v_X_now_rule_width, u_X_now_rule_limit, .ref q_X_now_rule_cells, .int v_X_now_rule_size])), (q_X_now_rule_cells, .inl (cI, N_X_now_rule_cells, .inl a_X_now_rule_cells))]
abbrev rm_X8_ahead : Room := { frames := 1, cells := 0, slots := 0, locals := 22 }
def g_X8_ahead_50 (N_X_now_rule_cells : Nat) (v_X_now_rule_width : Int32) (v_X_now_rule_size : Int32) (a_X_now_rule_cells : Nat → Int32) (v_X_rule_place : Int32) : Option (Int32 × Int32) :=
  (g_X7_size v_X_now_rule_size).bind fun v3 =>
  if v3 ≤ v_X_rule_place then (
    some ((-1), v_X_rule_place)
  ) else (
    (g_X7_at N_X_now_rule_cells v_X_now_rule_width v_X_now_rule_size a_X_now_rule_cells v_X_rule_place 0).bind fun v5 =>
    some (v5, v_X_rule_place)
  )
def g_X8_ahead_0b (N_X_now_rule_cells : Nat) (v_X_now_rule_width : Int32) (v_X_now_rule_size : Int32) (a_X_now_rule_cells : Nat → Int32) (k0 : Int32 → Option (Int32 × Int32)) (v_X_rule_place : Int32) : Option (Int32 × Int32) :=
  (g_X7_size v_X_now_rule_size).bind fun v1 =>
  if v1 ≤ v_X_rule_place then (
    g_X8_ahead_50 N_X_now_rule_cells v_X_now_rule_width v_X_now_rule_size a_X_now_rule_cells v_X_rule_place
  ) else (
    (g_X7_at N_X_now_rule_cells v_X_now_rule_width v_X_now_rule_size a_X_now_rule_cells v_X_rule_place 0).bind fun v7 =>
    if v7 = 32 then (
      k0 (v_X_rule_place + 1)
    ) else (
      g_X8_ahead_50 N_X_now_rule_cells v_X_now_rule_width v_X_now_rule_size a_X_now_rule_cells v_X_rule_place
    )
  )
def g_X8_ahead_0 (N_X_now_rule_cells : Nat) (v_X_now_rule_width : Int32) (v_X_now_rule_size : Int32) (a_X_now_rule_cells : Nat → Int32) : Nat → Int32 → Option (Int32 × Int32)
  | 0, _ => none
  | n + 1, v_X_rule_place => g_X8_ahead_0b N_X_now_rule_cells v_X_now_rule_width v_X_now_rule_size a_X_now_rule_cells (g_X8_ahead_0 N_X_now_rule_cells v_X_now_rule_width v_X_now_rule_size a_X_now_rule_cells n) v_X_rule_place
def g_X8_ahead (N_X_now_rule_cells : Nat) (v_X_now_rule_width : Int32) (v_X_now_rule_size : Int32) (a_X_now_rule_cells : Nat → Int32) (v_X_rule_place : Int32) : Option (Int32 × Int32) :=
  g_X8_ahead_0 N_X_now_rule_cells v_X_now_rule_width v_X_now_rule_size a_X_now_rule_cells zF v_X_rule_place
theorem hd_X8_ahead : yX8_ahead.cls = RX8 ∧ yX8_ahead.cls ≠ "java/lang/invoke/MethodHandle" ∧ yX8_ahead.cls ≠ "java/lang/invoke/VarHandle" ∧ (parseMethodDescriptor yX8_ahead.desc).map (fun d => d.parameters.length) = some 0 := by decide +kernel
set_option maxHeartbeats 4000000 in
set_option maxRecDepth 100000 in
theorem c_X8_ahead (l : Launch) (D : va_G) (cI cJ cZ cA : ClassId) (ga : Nat → Nat) (q_X_rule q_X_now q_X_now_rule q_X_now_rule_cells : Nat) (u_X_rule_row : Value) (u_X_rule_stack : Value) (u_X_rule_known : Value) (u_X_rule_size : Value) (u_X_rule_fault : Value) (u_X_rule_isStale : Value) (u_X_now_people : Value) (u_X_now_talks : Value) (u_X_now_dues : Value) (u_X_now_sights : Value) (u_X_now_settings : Value) (u_X_now_stake : Value) (u_X_now_rule_limit : Value) (N_X_now_rule_cells : Nat) (v_X_rule_place : Int32) (v_X_now_rule_width : Int32) (v_X_now_rule_size : Int32) (a_X_now_rule_cells : Nat → Int32) (o : Int32 × Int32) (hg : g_X8_ahead N_X_now_rule_cells v_X_now_rule_width v_X_now_rule_size a_X_now_rule_cells v_X_rule_place = some o) : zM l yX8_ahead (Cond.code yX8_ahead cX8_ahead 1 (some .int) :: wsL_law) rm_X8_ahead D (zTy cI cJ cZ cA) ga [.ref q_X_rule] (ws_X8_ahead cI cJ cZ cA q_X_rule q_X_now q_X_now_rule q_X_now_rule_cells u_X_rule_row u_X_rule_stack u_X_rule_known u_X_rule_size u_X_rule_fault u_X_rule_isStale u_X_now_people u_X_now_talks u_X_now_dues u_X_now_sights u_X_now_settings u_X_now_stake u_X_now_rule_limit N_X_now_rule_cells v_X_rule_place v_X_now_rule_width v_X_now_rule_size a_X_now_rule_cells) (ws_X8_ahead cI cJ cZ cA q_X_rule q_X_now q_X_now_rule q_X_now_rule_cells u_X_rule_row u_X_rule_stack u_X_rule_known u_X_rule_size u_X_rule_fault u_X_rule_isStale u_X_now_people u_X_now_talks u_X_now_dues u_X_now_sights u_X_now_settings u_X_now_stake u_X_now_rule_limit N_X_now_rule_cells o.2 v_X_now_rule_width v_X_now_rule_size a_X_now_rule_cells) (some (.int o.1)) := by
  refine zenterI (own := RX8) (by decide) rfl rfl (Nat.le_of_ble_eq_true rfl) ?_
  intro p e s m args below meth c A ls Q S hA hK hG hl hP hD hS hret0
  have hx := S.1
  have hb := S.2.1
  have ht : ∀ w, w ∈ wsL_law → w.before args s = true := fun w h => S.2.2.2.2 w (List.mem_cons_of_mem _ h)
  have hret : ∀ (r9 : Int32) (v_X_rule_place : Int32), (some (r9, v_X_rule_place) : Option (Int32 × Int32)) = some o → ∀ (H : Heap) (locs : List Loc) (pc : Nat) (ls : Array Slot), va_P D vwCl (ws_X8_ahead cI cJ cZ cA q_X_rule q_X_now q_X_now_rule q_X_now_rule_cells u_X_rule_row u_X_rule_stack u_X_rule_known u_X_rule_size u_X_rule_fault u_X_rule_isStale u_X_now_people u_X_now_talks u_X_now_dues u_X_now_sights u_X_now_settings u_X_now_stake u_X_now_rule_limit N_X_now_rule_cells v_X_rule_place v_X_now_rule_width v_X_now_rule_size a_X_now_rule_cells) H → va_S A s.heap H locs → decode cX8_ahead pc = .ok (.ireturn, 1) → W p l e rm_X8_ahead s m args below meth c H locs 0 0 Q (F0 m pc ls [.int r9]) := by
    intro r9 v_X_rule_place he; cases he; exact hret0
  have hl : lv_has ls 1 [(0, .ref q_X_rule)] := hl
  have B50 : ∀ (v_X_rule_place : Int32) (H : Heap) (locs : List Loc) (ls : Array Slot) (hl : lv_has ls 1 [(0, .ref q_X_rule)]) (hP : va_P D vwCl (ws_X8_ahead cI cJ cZ cA q_X_rule q_X_now q_X_now_rule q_X_now_rule_cells u_X_rule_row u_X_rule_stack u_X_rule_known u_X_rule_size u_X_rule_fault u_X_rule_isStale u_X_now_people u_X_now_talks u_X_now_dues u_X_now_sights u_X_now_settings u_X_now_stake u_X_now_rule_limit N_X_now_rule_cells v_X_rule_place v_X_now_rule_width v_X_now_rule_size a_X_now_rule_cells) H) (hD : va_D A (ws_X8_ahead cI cJ cZ cA q_X_rule q_X_now q_X_now_rule q_X_now_rule_cells u_X_rule_row u_X_rule_stack u_X_rule_known u_X_rule_size u_X_rule_fault u_X_rule_isStale u_X_now_people u_X_now_talks u_X_now_dues u_X_now_sights u_X_now_settings u_X_now_stake u_X_now_rule_limit N_X_now_rule_cells v_X_rule_place v_X_now_rule_width v_X_now_rule_size a_X_now_rule_cells)) (hS : va_S A s.heap H locs), g_X8_ahead_50 N_X_now_rule_cells v_X_now_rule_width v_X_now_rule_size a_X_now_rule_cells v_X_rule_place = some o → W p l e rm_X8_ahead s m args below meth c H locs 0 0 Q (F0 m 50 ls []) := by
    intro  v_X_rule_place H locs ls hl hP hD hS hg
    refine lv_aload_n hx hb dX8_ahead_50 rfl (lv_at hl 0 rfl) ?_
    refine zget (C := RX8) (T := TX8) (N := 8) S hK hP 0 rfl rfl 5 (Nat.le_of_ble_eq_true rfl) zf_8 zw_538 rfl dX8_ahead_51 ?_
    refine lv_aload_n hx hb dX8_ahead_54 rfl (lv_at hl 0 rfl) ?_
    refine zget (C := RX8) (T := TX8) (N := 8) S hK hP 0 rfl rfl 0 (Nat.le_of_ble_eq_true rfl) zf_8 zw_111 rfl dX8_ahead_55 ?_
    refine zget (C := RX9) (T := TX9) (N := 7) S hK hP 1 rfl rfl 4 (Nat.le_of_ble_eq_true rfl) zf_9 zw_551 rfl dX8_ahead_58 ?_
    obtain ⟨v3, hc4, hg⟩ := zbd hg
    refine zcallV (rest := [.int v_X_rule_place]) S (c_X7_size l D cI cJ cZ cA ga q_X_now_rule (.int v_X_now_rule_width) u_X_now_rule_limit (.ref q_X_now_rule_cells) v_X_now_rule_size v3 hc4) (zgV zw_552 zw_180 zw_181 zw_32 zw_182) rfl hd_X7_size ⟨rfl, rfl⟩ ⟨Nat.le_of_ble_eq_true rfl, Nat.le_of_ble_eq_true rfl⟩ 2 7 rfl rfl rfl hl.1 rfl (Nat.le_of_ble_eq_true rfl) dX8_ahead_61 hP hD hS hA hK hG (isC := [2]) rfl rfl rfl (w2 := (ws_X8_ahead cI cJ cZ cA q_X_rule q_X_now q_X_now_rule q_X_now_rule_cells u_X_rule_row u_X_rule_stack u_X_rule_known u_X_rule_size u_X_rule_fault u_X_rule_isStale u_X_now_people u_X_now_talks u_X_now_dues u_X_now_sights u_X_now_settings u_X_now_stake u_X_now_rule_limit N_X_now_rule_cells v_X_rule_place v_X_now_rule_width v_X_now_rule_size a_X_now_rule_cells)) rfl (st1 := [.int v3, .int v_X_rule_place]) rfl (fun H locs hP hD hS => ?_)
    refine lv_icmp_ge (tgt := 85) hx hb dX8_ahead_64 (by decide) (fun h64 => ?_) (fun h64 => ?_)
    · have hg := zp hg h64
      refine lv_iconst (v := (-1)) hx hb dX8_ahead_85 (by decide) ?_
      exact hret (-1) v_X_rule_place hg _ _ _ _ hP hS dX8_ahead_86
    · have hg := zn hg h64
      refine lv_aload_n hx hb dX8_ahead_67 rfl (lv_at hl 0 rfl) ?_
      refine zget (C := RX8) (T := TX8) (N := 8) S hK hP 0 rfl rfl 0 (Nat.le_of_ble_eq_true rfl) zf_8 zw_111 rfl dX8_ahead_68 ?_
      refine zget (C := RX9) (T := TX9) (N := 7) S hK hP 1 rfl rfl 4 (Nat.le_of_ble_eq_true rfl) zf_9 zw_551 rfl dX8_ahead_71 ?_
      refine lv_aload_n hx hb dX8_ahead_74 rfl (lv_at hl 0 rfl) ?_
      refine zget (C := RX8) (T := TX8) (N := 8) S hK hP 0 rfl rfl 5 (Nat.le_of_ble_eq_true rfl) zf_8 zw_538 rfl dX8_ahead_75 ?_
      refine lv_iconst (v := 0) hx hb dX8_ahead_78 (by decide) ?_
      obtain ⟨v5, hc6, hg⟩ := zbd hg
      refine zcallV (rest := []) S (c_X7_at l D cI cJ cZ cA ga q_X_now_rule q_X_now_rule_cells u_X_now_rule_limit N_X_now_rule_cells v_X_now_rule_width v_X_now_rule_size a_X_now_rule_cells v_X_rule_place 0 v5 hc6) (zgV zw_553 zw_353 zw_354 zw_32 zw_355) rfl hd_X7_at ⟨rfl, rfl⟩ ⟨Nat.le_of_ble_eq_true rfl, Nat.le_of_ble_eq_true rfl⟩ 2 7 rfl rfl rfl hl.1 rfl (Nat.le_of_ble_eq_true rfl) dX8_ahead_79 hP hD hS hA hK hG (isC := [2, 3]) rfl rfl rfl (w2 := (ws_X8_ahead cI cJ cZ cA q_X_rule q_X_now q_X_now_rule q_X_now_rule_cells u_X_rule_row u_X_rule_stack u_X_rule_known u_X_rule_size u_X_rule_fault u_X_rule_isStale u_X_now_people u_X_now_talks u_X_now_dues u_X_now_sights u_X_now_settings u_X_now_stake u_X_now_rule_limit N_X_now_rule_cells v_X_rule_place v_X_now_rule_width v_X_now_rule_size a_X_now_rule_cells)) rfl (st1 := [.int v5]) rfl (fun H locs hP hD hS => ?_)
      refine lv_goto (tgt := 86) hx hb dX8_ahead_82 (by decide) ?_
      exact hret v5 v_X_rule_place hg _ _ _ _ hP hS dX8_ahead_86
  have B0 : ∀  (n : Nat) (v_X_rule_place : Int32) (H : Heap) (locs : List Loc) (ls : Array Slot) (hl : lv_has ls 1 [(0, .ref q_X_rule)]) (hP : va_P D vwCl (ws_X8_ahead cI cJ cZ cA q_X_rule q_X_now q_X_now_rule q_X_now_rule_cells u_X_rule_row u_X_rule_stack u_X_rule_known u_X_rule_size u_X_rule_fault u_X_rule_isStale u_X_now_people u_X_now_talks u_X_now_dues u_X_now_sights u_X_now_settings u_X_now_stake u_X_now_rule_limit N_X_now_rule_cells v_X_rule_place v_X_now_rule_width v_X_now_rule_size a_X_now_rule_cells) H) (hD : va_D A (ws_X8_ahead cI cJ cZ cA q_X_rule q_X_now q_X_now_rule q_X_now_rule_cells u_X_rule_row u_X_rule_stack u_X_rule_known u_X_rule_size u_X_rule_fault u_X_rule_isStale u_X_now_people u_X_now_talks u_X_now_dues u_X_now_sights u_X_now_settings u_X_now_stake u_X_now_rule_limit N_X_now_rule_cells v_X_rule_place v_X_now_rule_width v_X_now_rule_size a_X_now_rule_cells)) (hS : va_S A s.heap H locs), g_X8_ahead_0 N_X_now_rule_cells v_X_now_rule_width v_X_now_rule_size a_X_now_rule_cells n v_X_rule_place = some o → W p l e rm_X8_ahead s m args below meth c H locs 0 0 Q (F0 m 0 ls []) := by
    intro  n
    induction n with
    | zero => intro v_X_rule_place H locs ls hl hP hD hS hg; exact nomatch (show (none : Option (Int32 × Int32)) = some o from hg)
    | succ n ih =>
      intro v_X_rule_place H locs ls hl hP hD hS hg
      have hg : g_X8_ahead_0b N_X_now_rule_cells v_X_now_rule_width v_X_now_rule_size a_X_now_rule_cells (g_X8_ahead_0 N_X_now_rule_cells v_X_now_rule_width v_X_now_rule_size a_X_now_rule_cells n) v_X_rule_place = some o := hg
      refine lv_aload_n hx hb dX8_ahead_0 rfl (lv_at hl 0 rfl) ?_
      refine zget (C := RX8) (T := TX8) (N := 8) S hK hP 0 rfl rfl 5 (Nat.le_of_ble_eq_true rfl) zf_8 zw_538 rfl dX8_ahead_1 ?_
      refine lv_aload_n hx hb dX8_ahead_4 rfl (lv_at hl 0 rfl) ?_
      refine zget (C := RX8) (T := TX8) (N := 8) S hK hP 0 rfl rfl 0 (Nat.le_of_ble_eq_true rfl) zf_8 zw_111 rfl dX8_ahead_5 ?_
      refine zget (C := RX9) (T := TX9) (N := 7) S hK hP 1 rfl rfl 4 (Nat.le_of_ble_eq_true rfl) zf_9 zw_551 rfl dX8_ahead_8 ?_
      obtain ⟨v1, hc2, hg⟩ := zbd hg
      refine zcallV (rest := [.int v_X_rule_place]) S (c_X7_size l D cI cJ cZ cA ga q_X_now_rule (.int v_X_now_rule_width) u_X_now_rule_limit (.ref q_X_now_rule_cells) v_X_now_rule_size v1 hc2) (zgV zw_552 zw_180 zw_181 zw_32 zw_182) rfl hd_X7_size ⟨rfl, rfl⟩ ⟨Nat.le_of_ble_eq_true rfl, Nat.le_of_ble_eq_true rfl⟩ 2 7 rfl rfl rfl hl.1 rfl (Nat.le_of_ble_eq_true rfl) dX8_ahead_11 hP hD hS hA hK hG (isC := [2]) rfl rfl rfl (w2 := (ws_X8_ahead cI cJ cZ cA q_X_rule q_X_now q_X_now_rule q_X_now_rule_cells u_X_rule_row u_X_rule_stack u_X_rule_known u_X_rule_size u_X_rule_fault u_X_rule_isStale u_X_now_people u_X_now_talks u_X_now_dues u_X_now_sights u_X_now_settings u_X_now_stake u_X_now_rule_limit N_X_now_rule_cells v_X_rule_place v_X_now_rule_width v_X_now_rule_size a_X_now_rule_cells)) rfl (st1 := [.int v1, .int v_X_rule_place]) rfl (fun H locs hP hD hS => ?_)
      refine lv_icmp_ge (tgt := 50) hx hb dX8_ahead_14 (by decide) (fun h14 => ?_) (fun h14 => ?_)
      · have hg := zp hg h14
        exact B50 v_X_rule_place _ _ _ hl hP hD hS hg
      · have hg := zn hg h14
        refine lv_aload_n hx hb dX8_ahead_17 rfl (lv_at hl 0 rfl) ?_
        refine zget (C := RX8) (T := TX8) (N := 8) S hK hP 0 rfl rfl 0 (Nat.le_of_ble_eq_true rfl) zf_8 zw_111 rfl dX8_ahead_18 ?_
        refine zget (C := RX9) (T := TX9) (N := 7) S hK hP 1 rfl rfl 4 (Nat.le_of_ble_eq_true rfl) zf_9 zw_551 rfl dX8_ahead_21 ?_
        refine lv_aload_n hx hb dX8_ahead_24 rfl (lv_at hl 0 rfl) ?_
        refine zget (C := RX8) (T := TX8) (N := 8) S hK hP 0 rfl rfl 5 (Nat.le_of_ble_eq_true rfl) zf_8 zw_538 rfl dX8_ahead_25 ?_
        refine lv_iconst (v := 0) hx hb dX8_ahead_28 (by decide) ?_
        obtain ⟨v7, hc8, hg⟩ := zbd hg
        refine zcallV (rest := []) S (c_X7_at l D cI cJ cZ cA ga q_X_now_rule q_X_now_rule_cells u_X_now_rule_limit N_X_now_rule_cells v_X_now_rule_width v_X_now_rule_size a_X_now_rule_cells v_X_rule_place 0 v7 hc8) (zgV zw_553 zw_353 zw_354 zw_32 zw_355) rfl hd_X7_at ⟨rfl, rfl⟩ ⟨Nat.le_of_ble_eq_true rfl, Nat.le_of_ble_eq_true rfl⟩ 2 7 rfl rfl rfl hl.1 rfl (Nat.le_of_ble_eq_true rfl) dX8_ahead_29 hP hD hS hA hK hG (isC := [2, 3]) rfl rfl rfl (w2 := (ws_X8_ahead cI cJ cZ cA q_X_rule q_X_now q_X_now_rule q_X_now_rule_cells u_X_rule_row u_X_rule_stack u_X_rule_known u_X_rule_size u_X_rule_fault u_X_rule_isStale u_X_now_people u_X_now_talks u_X_now_dues u_X_now_sights u_X_now_settings u_X_now_stake u_X_now_rule_limit N_X_now_rule_cells v_X_rule_place v_X_now_rule_width v_X_now_rule_size a_X_now_rule_cells)) rfl (st1 := [.int v7]) rfl (fun H locs hP hD hS => ?_)
        refine lv_bipush (v := 32) hx hb dX8_ahead_32 (by decide) ?_
        refine lv_icmp_ne (tgt := 50) hx hb dX8_ahead_34 (by decide) (fun h34 => ?_) (fun h34 => ?_)
        · have hg := zn hg h34
          exact B50 v_X_rule_place _ _ _ hl hP hD hS hg
        · have hg := zp hg h34
          refine lv_aload_n hx hb dX8_ahead_37 rfl (lv_at hl 0 rfl) ?_
          refine lv_dup hx hb dX8_ahead_38 rfl ?_
          refine zget (C := RX8) (T := TX8) (N := 8) S hK hP 0 rfl rfl 5 (Nat.le_of_ble_eq_true rfl) zf_8 zw_538 rfl dX8_ahead_39 ?_
          refine lv_iconst (v := 1) hx hb dX8_ahead_42 (by decide) ?_
          refine lv_iadd hx hb dX8_ahead_43 ?_
          refine zputf (C := RX8) (T := TX8) (N := 8) (ty := .int) S hK hP hD hS 0 rfl rfl 5 (Nat.le_of_ble_eq_true rfl) zf_8 tyX8 tyX8_ok nmX8 zw_538 rfl (by decide +kernel) rfl rfl (Nat.le_of_ble_eq_true rfl) dX8_ahead_44 (w2 := (ws_X8_ahead cI cJ cZ cA q_X_rule q_X_now q_X_now_rule q_X_now_rule_cells u_X_rule_row u_X_rule_stack u_X_rule_known u_X_rule_size u_X_rule_fault u_X_rule_isStale u_X_now_people u_X_now_talks u_X_now_dues u_X_now_sights u_X_now_settings u_X_now_stake u_X_now_rule_limit N_X_now_rule_cells (v_X_rule_place + 1) v_X_now_rule_width v_X_now_rule_size a_X_now_rule_cells)) rfl (fun H locs hP hD hS => ?_)
          refine lv_goto (tgt := 0) hx hb dX8_ahead_47 (by decide) ?_
          exact ih (v_X_rule_place + 1) _ _ _ hl hP hD hS hg
  exact B0 zF v_X_rule_place _ _ _ hl hP hD hS hg

/-! SpokenClock$Rule.stop(II)V -/
abbrev ws_X8_stop (cI cJ cZ cA : ClassId) (q_X_rule : Nat) (u_X_rule_state : Value) (u_X_rule_row : Value) (u_X_rule_stack : Value) (u_X_rule_known : Value) (u_X_rule_size : Value) (u_X_rule_place : Value) (u_X_rule_isStale : Value) (v_X_rule_fault : Int32) : va_W := [(q_X_rule, .inr (8, [u_X_rule_state, u_X_rule_row, u_X_rule_stack, u_X_rule_known, u_X_rule_size, u_X_rule_place, .int v_X_rule_fault, u_X_rule_isStale]))]
abbrev rm_X8_stop : Room := { frames := 0, cells := 0, slots := 0, locals := 0 }
def g_X8_stop (x1 : Int32) (x2 : Int32) (v_X_rule_fault : Int32) : Option (Int32) :=
  if v_X_rule_fault = (-1) then (
    some ((10 * x1) + x2)
  ) else (
    some (v_X_rule_fault)
  )
theorem hd_X8_stop : yX8_stop.cls = RX8 ∧ yX8_stop.cls ≠ "java/lang/invoke/MethodHandle" ∧ yX8_stop.cls ≠ "java/lang/invoke/VarHandle" ∧ (parseMethodDescriptor yX8_stop.desc).map (fun d => d.parameters.length) = some 2 := by decide +kernel
set_option maxHeartbeats 4000000 in
set_option maxRecDepth 100000 in
theorem c_X8_stop (l : Launch) (D : va_G) (cI cJ cZ cA : ClassId) (ga : Nat → Nat) (q_X_rule : Nat) (u_X_rule_state : Value) (u_X_rule_row : Value) (u_X_rule_stack : Value) (u_X_rule_known : Value) (u_X_rule_size : Value) (u_X_rule_place : Value) (u_X_rule_isStale : Value) (v_X_rule_fault : Int32) (x1 : Int32) (x2 : Int32) (o : Int32) (hg : g_X8_stop x1 x2 v_X_rule_fault = some o) : zM l yX8_stop (Cond.code yX8_stop cX8_stop 3 none :: wsL_law) rm_X8_stop D (zTy cI cJ cZ cA) ga [.ref q_X_rule, .int x1, .int x2] (ws_X8_stop cI cJ cZ cA q_X_rule u_X_rule_state u_X_rule_row u_X_rule_stack u_X_rule_known u_X_rule_size u_X_rule_place u_X_rule_isStale v_X_rule_fault) (ws_X8_stop cI cJ cZ cA q_X_rule u_X_rule_state u_X_rule_row u_X_rule_stack u_X_rule_known u_X_rule_size u_X_rule_place u_X_rule_isStale o) none := by
  refine zenterV (own := RX8) (by decide) rfl rfl (Nat.le_of_ble_eq_true rfl) ?_
  intro p e s m args below meth c A ls Q S hA hK hG hl hP hD hS hret0
  have hx := S.1
  have hb := S.2.1
  have ht : ∀ w, w ∈ wsL_law → w.before args s = true := fun w h => S.2.2.2.2 w (List.mem_cons_of_mem _ h)
  have hret : ∀ (v_X_rule_fault : Int32), (some (v_X_rule_fault) : Option (Int32)) = some o → ∀ (H : Heap) (locs : List Loc) (pc : Nat) (ls : Array Slot), va_P D vwCl (ws_X8_stop cI cJ cZ cA q_X_rule u_X_rule_state u_X_rule_row u_X_rule_stack u_X_rule_known u_X_rule_size u_X_rule_place u_X_rule_isStale v_X_rule_fault) H → va_S A s.heap H locs → decode cX8_stop pc = .ok (.return_, 1) → W p l e rm_X8_stop s m args below meth c H locs 0 0 Q (F0 m pc ls []) := by
    intro v_X_rule_fault he; cases he; exact hret0
  have hl : lv_has ls 3 [(0, .ref q_X_rule), (1, .int x1), (2, .int x2)] := hl
  refine lv_aload_n hx hb dX8_stop_0 rfl (lv_at hl 0 rfl) ?_
  refine zget (C := RX8) (T := TX8) (N := 8) S hK hP 0 rfl rfl 6 (Nat.le_of_ble_eq_true rfl) zf_8 zw_539 rfl dX8_stop_1 ?_
  refine lv_iconst (v := (-1)) hx hb dX8_stop_4 (by decide) ?_
  refine lv_icmp_ne (tgt := 18) hx hb dX8_stop_5 (by decide) (fun h5 => ?_) (fun h5 => ?_)
  · have hg := zn hg h5
    exact hret v_X_rule_fault hg _ _ _ _ hP hS dX8_stop_18
  · have hg := zp hg h5
    refine lv_aload_n hx hb dX8_stop_8 rfl (lv_at hl 0 rfl) ?_
    refine lv_bipush (v := 10) hx hb dX8_stop_9 (by decide) ?_
    refine lv_iload_n hx hb dX8_stop_11 rfl (lv_at hl 1 rfl) ?_
    refine lv_imul hx hb dX8_stop_12 ?_
    refine lv_iload_n hx hb dX8_stop_13 rfl (lv_at hl 2 rfl) ?_
    refine lv_iadd hx hb dX8_stop_14 ?_
    refine zputf (C := RX8) (T := TX8) (N := 8) (ty := .int) S hK hP hD hS 0 rfl rfl 6 (Nat.le_of_ble_eq_true rfl) zf_8 tyX8 tyX8_ok nmX8 zw_539 rfl (by decide +kernel) rfl rfl (Nat.le_of_ble_eq_true rfl) dX8_stop_15 (w2 := (ws_X8_stop cI cJ cZ cA q_X_rule u_X_rule_state u_X_rule_row u_X_rule_stack u_X_rule_known u_X_rule_size u_X_rule_place u_X_rule_isStale ((10 * x1) + x2))) rfl (fun H locs hP hD hS => ?_)
    exact hret ((10 * x1) + x2) hg _ _ _ _ hP hS dX8_stop_18

/-! SpokenClock$Rule.emit(I)V -/
abbrev ws_X8_emit (cI cJ cZ cA : ClassId) (q_X_rule q_X_rule_row : Nat) (u_X_rule_state : Value) (u_X_rule_stack : Value) (u_X_rule_known : Value) (u_X_rule_place : Value) (u_X_rule_isStale : Value) (v_X_rule_size : Int32) (v_X_rule_fault : Int32) (a_X_rule_row : Nat → Int32) : va_W := [(q_X_rule, .inr (8, [u_X_rule_state, .ref q_X_rule_row, u_X_rule_stack, u_X_rule_known, .int v_X_rule_size, u_X_rule_place, .int v_X_rule_fault, u_X_rule_isStale])), (q_X_rule_row, .inl (cI, 40, .inl a_X_rule_row))]
abbrev rm_X8_emit : Room := { frames := 0, cells := 0, slots := 0, locals := 0 }
def g_X8_emit (v_X_rule_fault : Int32) (x1 : Int32) (v_X_rule_size : Int32) (a_X_rule_row : Nat → Int32) : Option (Int32 × (Nat → Int32)) :=
  if v_X_rule_fault = (-1) then (
    if 40 ≤ v_X_rule_size then (
      some (v_X_rule_size, a_X_rule_row)
    ) else (
      if v_X_rule_size < 0 ∨ 40 ≤ v_X_rule_size.toNatClampNeg then none else
      some (v_X_rule_size + 1, upd a_X_rule_row (v_X_rule_size.toNatClampNeg) x1)
    )
  ) else (
    some (v_X_rule_size, a_X_rule_row)
  )
theorem hd_X8_emit : yX8_emit.cls = RX8 ∧ yX8_emit.cls ≠ "java/lang/invoke/MethodHandle" ∧ yX8_emit.cls ≠ "java/lang/invoke/VarHandle" ∧ (parseMethodDescriptor yX8_emit.desc).map (fun d => d.parameters.length) = some 1 := by decide +kernel
set_option maxHeartbeats 4000000 in
set_option maxRecDepth 100000 in
theorem c_X8_emit (l : Launch) (D : va_G) (cI cJ cZ cA : ClassId) (ga : Nat → Nat) (q_X_rule q_X_rule_row : Nat) (u_X_rule_state : Value) (u_X_rule_stack : Value) (u_X_rule_known : Value) (u_X_rule_place : Value) (u_X_rule_isStale : Value) (v_X_rule_size : Int32) (v_X_rule_fault : Int32) (a_X_rule_row : Nat → Int32) (x1 : Int32) (o : Int32 × (Nat → Int32)) (hg : g_X8_emit v_X_rule_fault x1 v_X_rule_size a_X_rule_row = some o) : zM l yX8_emit (Cond.code yX8_emit cX8_emit 2 none :: wsL_law) rm_X8_emit D (zTy cI cJ cZ cA) ga [.ref q_X_rule, .int x1] (ws_X8_emit cI cJ cZ cA q_X_rule q_X_rule_row u_X_rule_state u_X_rule_stack u_X_rule_known u_X_rule_place u_X_rule_isStale v_X_rule_size v_X_rule_fault a_X_rule_row) (ws_X8_emit cI cJ cZ cA q_X_rule q_X_rule_row u_X_rule_state u_X_rule_stack u_X_rule_known u_X_rule_place u_X_rule_isStale o.1 v_X_rule_fault o.2) none := by
  refine zenterV (own := RX8) (by decide) rfl rfl (Nat.le_of_ble_eq_true rfl) ?_
  intro p e s m args below meth c A ls Q S hA hK hG hl hP hD hS hret0
  have hx := S.1
  have hb := S.2.1
  have ht : ∀ w, w ∈ wsL_law → w.before args s = true := fun w h => S.2.2.2.2 w (List.mem_cons_of_mem _ h)
  have hret : ∀ (v_X_rule_size : Int32) (a_X_rule_row : Nat → Int32), (some (v_X_rule_size, a_X_rule_row) : Option (Int32 × (Nat → Int32))) = some o → ∀ (H : Heap) (locs : List Loc) (pc : Nat) (ls : Array Slot), va_P D vwCl (ws_X8_emit cI cJ cZ cA q_X_rule q_X_rule_row u_X_rule_state u_X_rule_stack u_X_rule_known u_X_rule_place u_X_rule_isStale v_X_rule_size v_X_rule_fault a_X_rule_row) H → va_S A s.heap H locs → decode cX8_emit pc = .ok (.return_, 1) → W p l e rm_X8_emit s m args below meth c H locs 0 0 Q (F0 m pc ls []) := by
    intro v_X_rule_size a_X_rule_row he; cases he; exact hret0
  have hl : lv_has ls 2 [(0, .ref q_X_rule), (1, .int x1)] := hl
  refine lv_aload_n hx hb dX8_emit_0 rfl (lv_at hl 0 rfl) ?_
  refine zget (C := RX8) (T := TX8) (N := 8) S hK hP 0 rfl rfl 6 (Nat.le_of_ble_eq_true rfl) zf_8 zw_539 rfl dX8_emit_1 ?_
  refine lv_iconst (v := (-1)) hx hb dX8_emit_4 (by decide) ?_
  refine lv_icmp_ne (tgt := 40) hx hb dX8_emit_5 (by decide) (fun h5 => ?_) (fun h5 => ?_)
  · have hg := zn hg h5
    exact hret v_X_rule_size a_X_rule_row hg _ _ _ _ hP hS dX8_emit_40
  · have hg := zp hg h5
    refine lv_aload_n hx hb dX8_emit_8 rfl (lv_at hl 0 rfl) ?_
    refine zget (C := RX8) (T := TX8) (N := 8) S hK hP 0 rfl rfl 4 (Nat.le_of_ble_eq_true rfl) zf_8 zw_537 rfl dX8_emit_9 ?_
    refine lv_aload_n hx hb dX8_emit_12 rfl (lv_at hl 0 rfl) ?_
    refine zget (C := RX8) (T := TX8) (N := 8) S hK hP 0 rfl rfl 1 (Nat.le_of_ble_eq_true rfl) zf_8 zw_106 rfl dX8_emit_13 ?_
    refine va_alen (v := 40) hx hb hK hP 1 0 rfl rfl (show Int32.ofNat 40 = 40 by decide) dX8_emit_16 ?_
    refine lv_icmp_ge (tgt := 40) hx hb dX8_emit_17 (by decide) (fun h17 => ?_) (fun h17 => ?_)
    · have hg := zp hg h17
      exact hret v_X_rule_size a_X_rule_row hg _ _ _ _ hP hS dX8_emit_40
    · have hg := zn hg h17
      refine lv_aload_n hx hb dX8_emit_20 rfl (lv_at hl 0 rfl) ?_
      refine zget (C := RX8) (T := TX8) (N := 8) S hK hP 0 rfl rfl 1 (Nat.le_of_ble_eq_true rfl) zf_8 zw_106 rfl dX8_emit_21 ?_
      refine lv_aload_n hx hb dX8_emit_24 rfl (lv_at hl 0 rfl) ?_
      refine zget (C := RX8) (T := TX8) (N := 8) S hK hP 0 rfl rfl 4 (Nat.le_of_ble_eq_true rfl) zf_8 zw_537 rfl dX8_emit_25 ?_
      refine lv_iload_n hx hb dX8_emit_28 rfl (lv_at hl 1 rfl) ?_
      obtain ⟨h1, hg⟩ := zck hg
      refine ziast hx hb hK hP hD hS 1 0 rfl rfl (j := (v_X_rule_size.toNatClampNeg)) h1 rfl dX8_emit_29 (w2 := (ws_X8_emit cI cJ cZ cA q_X_rule q_X_rule_row u_X_rule_state u_X_rule_stack u_X_rule_known u_X_rule_place u_X_rule_isStale v_X_rule_size v_X_rule_fault (upd a_X_rule_row (v_X_rule_size.toNatClampNeg) x1))) rfl (fun H locs hP hD hS => ?_)
      refine lv_aload_n hx hb dX8_emit_30 rfl (lv_at hl 0 rfl) ?_
      refine lv_dup hx hb dX8_emit_31 rfl ?_
      refine zget (C := RX8) (T := TX8) (N := 8) S hK hP 0 rfl rfl 4 (Nat.le_of_ble_eq_true rfl) zf_8 zw_537 rfl dX8_emit_32 ?_
      refine lv_iconst (v := 1) hx hb dX8_emit_35 (by decide) ?_
      refine lv_iadd hx hb dX8_emit_36 ?_
      refine zputf (C := RX8) (T := TX8) (N := 8) (ty := .int) S hK hP hD hS 0 rfl rfl 4 (Nat.le_of_ble_eq_true rfl) zf_8 tyX8 tyX8_ok nmX8 zw_537 rfl (by decide +kernel) rfl rfl (Nat.le_of_ble_eq_true rfl) dX8_emit_37 (w2 := (ws_X8_emit cI cJ cZ cA q_X_rule q_X_rule_row u_X_rule_state u_X_rule_stack u_X_rule_known u_X_rule_place u_X_rule_isStale (v_X_rule_size + 1) v_X_rule_fault (upd a_X_rule_row (v_X_rule_size.toNatClampNeg) x1))) rfl (fun H locs hP hD hS => ?_)
      exact hret (v_X_rule_size + 1) (upd a_X_rule_row (v_X_rule_size.toNatClampNeg) x1) hg _ _ _ _ hP hS dX8_emit_40

/-! SpokenClock$Rule.rankOf(I)I -/
abbrev ws_X8_rankOf (cI cJ cZ cA : ClassId) : va_W := []
abbrev rm_X8_rankOf : Room := { frames := 0, cells := 0, slots := 0, locals := 0 }
def g_X8_rankOf (x0 : Int32) : Option (Int32) :=
  if x0 = 38 then (
    some (1)
  ) else
  if x0 = 42 then (
    some (4)
  ) else
  if x0 = 43 then (
    some (3)
  ) else
  if x0 = 45 then (
    some (3)
  ) else
  if x0 = 47 then (
    some (4)
  ) else
  if x0 = 60 then (
    some (2)
  ) else
  if x0 = 61 then (
    some (2)
  ) else
  if x0 = 62 then (
    some (2)
  ) else
  if x0 = 124 then (
    some (0)
  ) else
  (
    some ((-1))
  )
theorem hd_X8_rankOf : yX8_rankOf.cls ≠ "java/lang/invoke/MethodHandle" ∧ yX8_rankOf.cls ≠ "java/lang/invoke/VarHandle" ∧ (parseMethodDescriptor yX8_rankOf.desc).map (fun d => d.parameters.length) = some 1 := by decide +kernel
set_option maxHeartbeats 4000000 in
set_option maxRecDepth 100000 in
theorem c_X8_rankOf (l : Launch) (D : va_G) (cI cJ cZ cA : ClassId) (ga : Nat → Nat) (x0 : Int32) (o : Int32) (hg : g_X8_rankOf x0 = some o) : zM l yX8_rankOf (Cond.code yX8_rankOf cX8_rankOf 1 (some .int) :: wsL_law) rm_X8_rankOf D (zTy cI cJ cZ cA) ga [.int x0] (ws_X8_rankOf cI cJ cZ cA) (ws_X8_rankOf cI cJ cZ cA) (some (.int o)) := by
  refine zenterI (own := RX8) (by decide) rfl rfl (Nat.le_of_ble_eq_true rfl) ?_
  intro p e s m args below meth c A ls Q S hA hK hG hl hP hD hS hret0
  have hx := S.1
  have hb := S.2.1
  have ht : ∀ w, w ∈ wsL_law → w.before args s = true := fun w h => S.2.2.2.2 w (List.mem_cons_of_mem _ h)
  have hret : ∀ (r9 : Int32), (some (r9) : Option (Int32)) = some o → ∀ (H : Heap) (locs : List Loc) (pc : Nat) (ls : Array Slot), va_P D vwCl (ws_X8_rankOf cI cJ cZ cA) H → va_S A s.heap H locs → decode cX8_rankOf pc = .ok (.ireturn, 1) → W p l e rm_X8_rankOf s m args below meth c H locs 0 0 Q (F0 m pc ls [.int r9]) := by
    intro r9 he; cases he; exact hret0
  have hl : lv_has ls 1 [(0, .int x0)] := hl
  refine lv_iload_n hx hb dX8_rankOf_0 rfl (lv_at hl 0 rfl) ?_
  by_cases h1_38 : x0 = 38
  · have hg := zp hg h1_38
    refine lv_lookup (off := 85) (tgt := 86) hx hb dX8_rankOf_1 (by decide) (by rw [h1_38]; decide) (by decide) ?_
    refine lv_iconst (v := 1) hx hb dX8_rankOf_86 (by decide) ?_
    exact hret 1 hg _ _ _ _ hP hS dX8_rankOf_87
  · have hg := zn hg h1_38
    by_cases h1_42 : x0 = 42
    · have hg := zp hg h1_42
      refine lv_lookup (off := 91) (tgt := 92) hx hb dX8_rankOf_1 (by decide) (by rw [h1_42]; decide) (by decide) ?_
      refine lv_iconst (v := 4) hx hb dX8_rankOf_92 (by decide) ?_
      exact hret 4 hg _ _ _ _ hP hS dX8_rankOf_93
    · have hg := zn hg h1_42
      by_cases h1_43 : x0 = 43
      · have hg := zp hg h1_43
        refine lv_lookup (off := 89) (tgt := 90) hx hb dX8_rankOf_1 (by decide) (by rw [h1_43]; decide) (by decide) ?_
        refine lv_iconst (v := 3) hx hb dX8_rankOf_90 (by decide) ?_
        exact hret 3 hg _ _ _ _ hP hS dX8_rankOf_91
      · have hg := zn hg h1_43
        by_cases h1_45 : x0 = 45
        · have hg := zp hg h1_45
          refine lv_lookup (off := 89) (tgt := 90) hx hb dX8_rankOf_1 (by decide) (by rw [h1_45]; decide) (by decide) ?_
          refine lv_iconst (v := 3) hx hb dX8_rankOf_90 (by decide) ?_
          exact hret 3 hg _ _ _ _ hP hS dX8_rankOf_91
        · have hg := zn hg h1_45
          by_cases h1_47 : x0 = 47
          · have hg := zp hg h1_47
            refine lv_lookup (off := 91) (tgt := 92) hx hb dX8_rankOf_1 (by decide) (by rw [h1_47]; decide) (by decide) ?_
            refine lv_iconst (v := 4) hx hb dX8_rankOf_92 (by decide) ?_
            exact hret 4 hg _ _ _ _ hP hS dX8_rankOf_93
          · have hg := zn hg h1_47
            by_cases h1_60 : x0 = 60
            · have hg := zp hg h1_60
              refine lv_lookup (off := 87) (tgt := 88) hx hb dX8_rankOf_1 (by decide) (by rw [h1_60]; decide) (by decide) ?_
              refine lv_iconst (v := 2) hx hb dX8_rankOf_88 (by decide) ?_
              exact hret 2 hg _ _ _ _ hP hS dX8_rankOf_89
            · have hg := zn hg h1_60
              by_cases h1_61 : x0 = 61
              · have hg := zp hg h1_61
                refine lv_lookup (off := 87) (tgt := 88) hx hb dX8_rankOf_1 (by decide) (by rw [h1_61]; decide) (by decide) ?_
                refine lv_iconst (v := 2) hx hb dX8_rankOf_88 (by decide) ?_
                exact hret 2 hg _ _ _ _ hP hS dX8_rankOf_89
              · have hg := zn hg h1_61
                by_cases h1_62 : x0 = 62
                · have hg := zp hg h1_62
                  refine lv_lookup (off := 87) (tgt := 88) hx hb dX8_rankOf_1 (by decide) (by rw [h1_62]; decide) (by decide) ?_
                  refine lv_iconst (v := 2) hx hb dX8_rankOf_88 (by decide) ?_
                  exact hret 2 hg _ _ _ _ hP hS dX8_rankOf_89
                · have hg := zn hg h1_62
                  by_cases h1_124 : x0 = 124
                  · have hg := zp hg h1_124
                    refine lv_lookup (off := 83) (tgt := 84) hx hb dX8_rankOf_1 (by decide) (by rw [h1_124]; decide) (by decide) ?_
                    refine lv_iconst (v := 0) hx hb dX8_rankOf_84 (by decide) ?_
                    exact hret 0 hg _ _ _ _ hP hS dX8_rankOf_85
                  · have hg := zn hg h1_124
                    refine lv_lookup (off := 93) (tgt := 94) hx hb dX8_rankOf_1 (by decide) ((lv_osw h1_38 (by decide)).trans ((lv_osw h1_42 (by decide)).trans ((lv_osw h1_43 (by decide)).trans ((lv_osw h1_45 (by decide)).trans ((lv_osw h1_47 (by decide)).trans ((lv_osw h1_60 (by decide)).trans ((lv_osw h1_61 (by decide)).trans ((lv_osw h1_62 (by decide)).trans ((lv_osw h1_124 (by decide)).trans (rfl)))))))))) (by decide) ?_
                    refine lv_iconst (v := (-1)) hx hb dX8_rankOf_94 (by decide) ?_
                    exact hret (-1) hg _ _ _ _ hP hS dX8_rankOf_95

/-! SpokenClock$Rule.isPrefix(I)Z -/
abbrev ws_X8_isPrefix (cI cJ cZ cA : ClassId) : va_W := []
abbrev rm_X8_isPrefix : Room := { frames := 0, cells := 0, slots := 0, locals := 0 }
def g_X8_isPrefix_12 (x0 : Int32) : Option (Int32) :=
  some (1)
def g_X8_isPrefix (x0 : Int32) : Option (Int32) :=
  if x0 = 33 then (
    g_X8_isPrefix_12 x0
  ) else (
    if x0 = 45 then (
      g_X8_isPrefix_12 x0
    ) else (
      some (0)
    )
  )
theorem hd_X8_isPrefix : yX8_isPrefix.cls ≠ "java/lang/invoke/MethodHandle" ∧ yX8_isPrefix.cls ≠ "java/lang/invoke/VarHandle" ∧ (parseMethodDescriptor yX8_isPrefix.desc).map (fun d => d.parameters.length) = some 1 := by decide +kernel
set_option maxHeartbeats 4000000 in
set_option maxRecDepth 100000 in
theorem c_X8_isPrefix (l : Launch) (D : va_G) (cI cJ cZ cA : ClassId) (ga : Nat → Nat) (x0 : Int32) (o : Int32) (hg : g_X8_isPrefix x0 = some o) : zM l yX8_isPrefix (Cond.code yX8_isPrefix cX8_isPrefix 1 (some .boolean) :: wsL_law) rm_X8_isPrefix D (zTy cI cJ cZ cA) ga [.int x0] (ws_X8_isPrefix cI cJ cZ cA) (ws_X8_isPrefix cI cJ cZ cA) (some (.int o)) := by
  refine zenterN (own := RX8) (by decide) rfl rfl (Nat.le_of_ble_eq_true rfl) ?_
  intro p e s m args below meth c A ls Q S hA hK hG hl hP hD hS hret0
  have hx := S.1
  have hb := S.2.1
  have ht : ∀ w, w ∈ wsL_law → w.before args s = true := fun w h => S.2.2.2.2 w (List.mem_cons_of_mem _ h)
  have hret : ∀ (r9 : Int32), (some (r9) : Option (Int32)) = some o → narrow .boolean (.int r9) = .int r9 → ∀ (H : Heap) (locs : List Loc) (pc : Nat) (ls : Array Slot), va_P D vwCl (ws_X8_isPrefix cI cJ cZ cA) H → va_S A s.heap H locs → decode cX8_isPrefix pc = .ok (.ireturn, 1) → W p l e rm_X8_isPrefix s m args below meth c H locs 0 0 Q (F0 m pc ls [.int r9]) := by
    intro r9 he; cases he; exact hret0
  have hl : lv_has ls 1 [(0, .int x0)] := hl
  have B12 : ∀  (H : Heap) (locs : List Loc) (ls : Array Slot) (hl : lv_has ls 1 []) (hP : va_P D vwCl (ws_X8_isPrefix cI cJ cZ cA) H) (hD : va_D A (ws_X8_isPrefix cI cJ cZ cA)) (hS : va_S A s.heap H locs), g_X8_isPrefix_12 x0 = some o → W p l e rm_X8_isPrefix s m args below meth c H locs 0 0 Q (F0 m 12 ls []) := by
    intro   H locs ls hl hP hD hS hg
    refine lv_iconst (v := 1) hx hb dX8_isPrefix_12 (by decide) ?_
    refine lv_goto (tgt := 17) hx hb dX8_isPrefix_13 (by decide) ?_
    exact hret 1 hg (zb01 (Or.inr rfl)) _ _ _ _ hP hS dX8_isPrefix_17
  refine lv_iload_n hx hb dX8_isPrefix_0 rfl (lv_at hl 0 rfl) ?_
  refine lv_bipush (v := 33) hx hb dX8_isPrefix_1 (by decide) ?_
  refine lv_icmp_eq (tgt := 12) hx hb dX8_isPrefix_3 (by decide) (fun h3 => ?_) (fun h3 => ?_)
  · have hg := zp hg h3
    exact B12  _ _ _ (lv_sub hl [] rfl) hP hD hS hg
  · have hg := zn hg h3
    refine lv_iload_n hx hb dX8_isPrefix_6 rfl (lv_at hl 0 rfl) ?_
    refine lv_bipush (v := 45) hx hb dX8_isPrefix_7 (by decide) ?_
    refine lv_icmp_ne (tgt := 16) hx hb dX8_isPrefix_9 (by decide) (fun h9 => ?_) (fun h9 => ?_)
    · have hg := zn hg h9
      refine lv_iconst (v := 0) hx hb dX8_isPrefix_16 (by decide) ?_
      exact hret 0 hg (zb01 (Or.inl rfl)) _ _ _ _ hP hS dX8_isPrefix_17
    · have hg := zp hg h9
      exact B12  _ _ _ (lv_sub hl [] rfl) hP hD hS hg

/-! SpokenClock$Rule.isDigit(I)Z -/
abbrev ws_X8_isDigit (cI cJ cZ cA : ClassId) : va_W := []
abbrev rm_X8_isDigit : Room := { frames := 0, cells := 0, slots := 0, locals := 0 }
def g_X8_isDigit (x0 : Int32) : Option (Int32) :=
  if x0 < 48 then (
    some (0)
  ) else (
    if 57 < x0 then (
      some (0)
    ) else (
      some (1)
    )
  )
theorem hd_X8_isDigit : yX8_isDigit.cls ≠ "java/lang/invoke/MethodHandle" ∧ yX8_isDigit.cls ≠ "java/lang/invoke/VarHandle" ∧ (parseMethodDescriptor yX8_isDigit.desc).map (fun d => d.parameters.length) = some 1 := by decide +kernel
set_option maxHeartbeats 4000000 in
set_option maxRecDepth 100000 in
theorem c_X8_isDigit (l : Launch) (D : va_G) (cI cJ cZ cA : ClassId) (ga : Nat → Nat) (x0 : Int32) (o : Int32) (hg : g_X8_isDigit x0 = some o) : zM l yX8_isDigit (Cond.code yX8_isDigit cX8_isDigit 1 (some .boolean) :: wsL_law) rm_X8_isDigit D (zTy cI cJ cZ cA) ga [.int x0] (ws_X8_isDigit cI cJ cZ cA) (ws_X8_isDigit cI cJ cZ cA) (some (.int o)) := by
  refine zenterN (own := RX8) (by decide) rfl rfl (Nat.le_of_ble_eq_true rfl) ?_
  intro p e s m args below meth c A ls Q S hA hK hG hl hP hD hS hret0
  have hx := S.1
  have hb := S.2.1
  have ht : ∀ w, w ∈ wsL_law → w.before args s = true := fun w h => S.2.2.2.2 w (List.mem_cons_of_mem _ h)
  have hret : ∀ (r9 : Int32), (some (r9) : Option (Int32)) = some o → narrow .boolean (.int r9) = .int r9 → ∀ (H : Heap) (locs : List Loc) (pc : Nat) (ls : Array Slot), va_P D vwCl (ws_X8_isDigit cI cJ cZ cA) H → va_S A s.heap H locs → decode cX8_isDigit pc = .ok (.ireturn, 1) → W p l e rm_X8_isDigit s m args below meth c H locs 0 0 Q (F0 m pc ls [.int r9]) := by
    intro r9 he; cases he; exact hret0
  have hl : lv_has ls 1 [(0, .int x0)] := hl
  refine lv_iload_n hx hb dX8_isDigit_0 rfl (lv_at hl 0 rfl) ?_
  refine lv_bipush (v := 48) hx hb dX8_isDigit_1 (by decide) ?_
  refine lv_icmp_lt (tgt := 16) hx hb dX8_isDigit_3 (by decide) (fun h3 => ?_) (fun h3 => ?_)
  · have hg := zp hg h3
    refine lv_iconst (v := 0) hx hb dX8_isDigit_16 (by decide) ?_
    exact hret 0 hg (zb01 (Or.inl rfl)) _ _ _ _ hP hS dX8_isDigit_17
  · have hg := zn hg h3
    refine lv_iload_n hx hb dX8_isDigit_6 rfl (lv_at hl 0 rfl) ?_
    refine lv_bipush (v := 57) hx hb dX8_isDigit_7 (by decide) ?_
    refine lv_icmp_gt (tgt := 16) hx hb dX8_isDigit_9 (by decide) (fun h9 => ?_) (fun h9 => ?_)
    · have hg := zp hg h9
      refine lv_iconst (v := 0) hx hb dX8_isDigit_16 (by decide) ?_
      exact hret 0 hg (zb01 (Or.inl rfl)) _ _ _ _ hP hS dX8_isDigit_17
    · have hg := zn hg h9
      refine lv_iconst (v := 1) hx hb dX8_isDigit_12 (by decide) ?_
      refine lv_goto (tgt := 17) hx hb dX8_isDigit_13 (by decide) ?_
      exact hret 1 hg (zb01 (Or.inr rfl)) _ _ _ _ hP hS dX8_isDigit_17

/-! SpokenClock$Rule.nameOf(I)I -/
abbrev ws_X8_nameOf (cI cJ cZ cA : ClassId) : va_W := []
abbrev rm_X8_nameOf : Room := { frames := 0, cells := 0, slots := 0, locals := 0 }
def g_X8_nameOf (x0 : Int32) : Option (Int32) :=
  if x0 = 98 then (
    some (4)
  ) else
  if x0 = 99 then (
    some (0)
  ) else
  if x0 = 100 then (
    some ((-1))
  ) else
  if x0 = 101 then (
    some ((-1))
  ) else
  if x0 = 102 then (
    some (5)
  ) else
  if x0 = 103 then (
    some ((-1))
  ) else
  if x0 = 104 then (
    some ((-1))
  ) else
  if x0 = 105 then (
    some ((-1))
  ) else
  if x0 = 106 then (
    some ((-1))
  ) else
  if x0 = 107 then (
    some ((-1))
  ) else
  if x0 = 108 then (
    some ((-1))
  ) else
  if x0 = 109 then (
    some ((-1))
  ) else
  if x0 = 110 then (
    some ((-1))
  ) else
  if x0 = 111 then (
    some (2)
  ) else
  if x0 = 112 then (
    some (3)
  ) else
  if x0 = 113 then (
    some ((-1))
  ) else
  if x0 = 114 then (
    some ((-1))
  ) else
  if x0 = 115 then (
    some (1)
  ) else
  (
    some ((-1))
  )
theorem hd_X8_nameOf : yX8_nameOf.cls ≠ "java/lang/invoke/MethodHandle" ∧ yX8_nameOf.cls ≠ "java/lang/invoke/VarHandle" ∧ (parseMethodDescriptor yX8_nameOf.desc).map (fun d => d.parameters.length) = some 1 := by decide +kernel
set_option maxHeartbeats 4000000 in
set_option maxRecDepth 100000 in
theorem c_X8_nameOf (l : Launch) (D : va_G) (cI cJ cZ cA : ClassId) (ga : Nat → Nat) (x0 : Int32) (o : Int32) (hg : g_X8_nameOf x0 = some o) : zM l yX8_nameOf (Cond.code yX8_nameOf cX8_nameOf 1 (some .int) :: wsL_law) rm_X8_nameOf D (zTy cI cJ cZ cA) ga [.int x0] (ws_X8_nameOf cI cJ cZ cA) (ws_X8_nameOf cI cJ cZ cA) (some (.int o)) := by
  refine zenterI (own := RX8) (by decide) rfl rfl (Nat.le_of_ble_eq_true rfl) ?_
  intro p e s m args below meth c A ls Q S hA hK hG hl hP hD hS hret0
  have hx := S.1
  have hb := S.2.1
  have ht : ∀ w, w ∈ wsL_law → w.before args s = true := fun w h => S.2.2.2.2 w (List.mem_cons_of_mem _ h)
  have hret : ∀ (r9 : Int32), (some (r9) : Option (Int32)) = some o → ∀ (H : Heap) (locs : List Loc) (pc : Nat) (ls : Array Slot), va_P D vwCl (ws_X8_nameOf cI cJ cZ cA) H → va_S A s.heap H locs → decode cX8_nameOf pc = .ok (.ireturn, 1) → W p l e rm_X8_nameOf s m args below meth c H locs 0 0 Q (F0 m pc ls [.int r9]) := by
    intro r9 he; cases he; exact hret0
  have hl : lv_has ls 1 [(0, .int x0)] := hl
  refine lv_iload_n hx hb dX8_nameOf_0 rfl (lv_at hl 0 rfl) ?_
  by_cases h1_98 : x0 = 98
  · have hg := zp hg h1_98
    refine lv_tableIn (tgt := 96) hx hb dX8_nameOf_1 (by rw [h1_98]; decide) (by rw [h1_98]; decide) (by rw [h1_98]; rfl) (by decide) ?_
    refine lv_iconst (v := 4) hx hb dX8_nameOf_96 (by decide) ?_
    exact hret 4 hg _ _ _ _ hP hS dX8_nameOf_97
  · have hg := zn hg h1_98
    by_cases h1_99 : x0 = 99
    · have hg := zp hg h1_99
      refine lv_tableIn (tgt := 88) hx hb dX8_nameOf_1 (by rw [h1_99]; decide) (by rw [h1_99]; decide) (by rw [h1_99]; rfl) (by decide) ?_
      refine lv_iconst (v := 0) hx hb dX8_nameOf_88 (by decide) ?_
      exact hret 0 hg _ _ _ _ hP hS dX8_nameOf_89
    · have hg := zn hg h1_99
      by_cases h1_100 : x0 = 100
      · have hg := zp hg h1_100
        refine lv_tableIn (tgt := 100) hx hb dX8_nameOf_1 (by rw [h1_100]; decide) (by rw [h1_100]; decide) (by rw [h1_100]; rfl) (by decide) ?_
        refine lv_iconst (v := (-1)) hx hb dX8_nameOf_100 (by decide) ?_
        exact hret (-1) hg _ _ _ _ hP hS dX8_nameOf_101
      · have hg := zn hg h1_100
        by_cases h1_101 : x0 = 101
        · have hg := zp hg h1_101
          refine lv_tableIn (tgt := 100) hx hb dX8_nameOf_1 (by rw [h1_101]; decide) (by rw [h1_101]; decide) (by rw [h1_101]; rfl) (by decide) ?_
          refine lv_iconst (v := (-1)) hx hb dX8_nameOf_100 (by decide) ?_
          exact hret (-1) hg _ _ _ _ hP hS dX8_nameOf_101
        · have hg := zn hg h1_101
          by_cases h1_102 : x0 = 102
          · have hg := zp hg h1_102
            refine lv_tableIn (tgt := 98) hx hb dX8_nameOf_1 (by rw [h1_102]; decide) (by rw [h1_102]; decide) (by rw [h1_102]; rfl) (by decide) ?_
            refine lv_iconst (v := 5) hx hb dX8_nameOf_98 (by decide) ?_
            exact hret 5 hg _ _ _ _ hP hS dX8_nameOf_99
          · have hg := zn hg h1_102
            by_cases h1_103 : x0 = 103
            · have hg := zp hg h1_103
              refine lv_tableIn (tgt := 100) hx hb dX8_nameOf_1 (by rw [h1_103]; decide) (by rw [h1_103]; decide) (by rw [h1_103]; rfl) (by decide) ?_
              refine lv_iconst (v := (-1)) hx hb dX8_nameOf_100 (by decide) ?_
              exact hret (-1) hg _ _ _ _ hP hS dX8_nameOf_101
            · have hg := zn hg h1_103
              by_cases h1_104 : x0 = 104
              · have hg := zp hg h1_104
                refine lv_tableIn (tgt := 100) hx hb dX8_nameOf_1 (by rw [h1_104]; decide) (by rw [h1_104]; decide) (by rw [h1_104]; rfl) (by decide) ?_
                refine lv_iconst (v := (-1)) hx hb dX8_nameOf_100 (by decide) ?_
                exact hret (-1) hg _ _ _ _ hP hS dX8_nameOf_101
              · have hg := zn hg h1_104
                by_cases h1_105 : x0 = 105
                · have hg := zp hg h1_105
                  refine lv_tableIn (tgt := 100) hx hb dX8_nameOf_1 (by rw [h1_105]; decide) (by rw [h1_105]; decide) (by rw [h1_105]; rfl) (by decide) ?_
                  refine lv_iconst (v := (-1)) hx hb dX8_nameOf_100 (by decide) ?_
                  exact hret (-1) hg _ _ _ _ hP hS dX8_nameOf_101
                · have hg := zn hg h1_105
                  by_cases h1_106 : x0 = 106
                  · have hg := zp hg h1_106
                    refine lv_tableIn (tgt := 100) hx hb dX8_nameOf_1 (by rw [h1_106]; decide) (by rw [h1_106]; decide) (by rw [h1_106]; rfl) (by decide) ?_
                    refine lv_iconst (v := (-1)) hx hb dX8_nameOf_100 (by decide) ?_
                    exact hret (-1) hg _ _ _ _ hP hS dX8_nameOf_101
                  · have hg := zn hg h1_106
                    by_cases h1_107 : x0 = 107
                    · have hg := zp hg h1_107
                      refine lv_tableIn (tgt := 100) hx hb dX8_nameOf_1 (by rw [h1_107]; decide) (by rw [h1_107]; decide) (by rw [h1_107]; rfl) (by decide) ?_
                      refine lv_iconst (v := (-1)) hx hb dX8_nameOf_100 (by decide) ?_
                      exact hret (-1) hg _ _ _ _ hP hS dX8_nameOf_101
                    · have hg := zn hg h1_107
                      by_cases h1_108 : x0 = 108
                      · have hg := zp hg h1_108
                        refine lv_tableIn (tgt := 100) hx hb dX8_nameOf_1 (by rw [h1_108]; decide) (by rw [h1_108]; decide) (by rw [h1_108]; rfl) (by decide) ?_
                        refine lv_iconst (v := (-1)) hx hb dX8_nameOf_100 (by decide) ?_
                        exact hret (-1) hg _ _ _ _ hP hS dX8_nameOf_101
                      · have hg := zn hg h1_108
                        by_cases h1_109 : x0 = 109
                        · have hg := zp hg h1_109
                          refine lv_tableIn (tgt := 100) hx hb dX8_nameOf_1 (by rw [h1_109]; decide) (by rw [h1_109]; decide) (by rw [h1_109]; rfl) (by decide) ?_
                          refine lv_iconst (v := (-1)) hx hb dX8_nameOf_100 (by decide) ?_
                          exact hret (-1) hg _ _ _ _ hP hS dX8_nameOf_101
                        · have hg := zn hg h1_109
                          by_cases h1_110 : x0 = 110
                          · have hg := zp hg h1_110
                            refine lv_tableIn (tgt := 100) hx hb dX8_nameOf_1 (by rw [h1_110]; decide) (by rw [h1_110]; decide) (by rw [h1_110]; rfl) (by decide) ?_
                            refine lv_iconst (v := (-1)) hx hb dX8_nameOf_100 (by decide) ?_
                            exact hret (-1) hg _ _ _ _ hP hS dX8_nameOf_101
                          · have hg := zn hg h1_110
                            by_cases h1_111 : x0 = 111
                            · have hg := zp hg h1_111
                              refine lv_tableIn (tgt := 92) hx hb dX8_nameOf_1 (by rw [h1_111]; decide) (by rw [h1_111]; decide) (by rw [h1_111]; rfl) (by decide) ?_
                              refine lv_iconst (v := 2) hx hb dX8_nameOf_92 (by decide) ?_
                              exact hret 2 hg _ _ _ _ hP hS dX8_nameOf_93
                            · have hg := zn hg h1_111
                              by_cases h1_112 : x0 = 112
                              · have hg := zp hg h1_112
                                refine lv_tableIn (tgt := 94) hx hb dX8_nameOf_1 (by rw [h1_112]; decide) (by rw [h1_112]; decide) (by rw [h1_112]; rfl) (by decide) ?_
                                refine lv_iconst (v := 3) hx hb dX8_nameOf_94 (by decide) ?_
                                exact hret 3 hg _ _ _ _ hP hS dX8_nameOf_95
                              · have hg := zn hg h1_112
                                by_cases h1_113 : x0 = 113
                                · have hg := zp hg h1_113
                                  refine lv_tableIn (tgt := 100) hx hb dX8_nameOf_1 (by rw [h1_113]; decide) (by rw [h1_113]; decide) (by rw [h1_113]; rfl) (by decide) ?_
                                  refine lv_iconst (v := (-1)) hx hb dX8_nameOf_100 (by decide) ?_
                                  exact hret (-1) hg _ _ _ _ hP hS dX8_nameOf_101
                                · have hg := zn hg h1_113
                                  by_cases h1_114 : x0 = 114
                                  · have hg := zp hg h1_114
                                    refine lv_tableIn (tgt := 100) hx hb dX8_nameOf_1 (by rw [h1_114]; decide) (by rw [h1_114]; decide) (by rw [h1_114]; rfl) (by decide) ?_
                                    refine lv_iconst (v := (-1)) hx hb dX8_nameOf_100 (by decide) ?_
                                    exact hret (-1) hg _ _ _ _ hP hS dX8_nameOf_101
                                  · have hg := zn hg h1_114
                                    by_cases h1_115 : x0 = 115
                                    · have hg := zp hg h1_115
                                      refine lv_tableIn (tgt := 90) hx hb dX8_nameOf_1 (by rw [h1_115]; decide) (by rw [h1_115]; decide) (by rw [h1_115]; rfl) (by decide) ?_
                                      refine lv_iconst (v := 1) hx hb dX8_nameOf_90 (by decide) ?_
                                      exact hret 1 hg _ _ _ _ hP hS dX8_nameOf_91
                                    · have hg := zn hg h1_115
                                      refine lv_tableOut (tgt := 100) hx hb dX8_nameOf_1 (by have a0 := lv_neT h1_98 (a := 98) (by decide); have a1 := lv_neT h1_99 (a := 99) (by decide); have a2 := lv_neT h1_100 (a := 100) (by decide); have a3 := lv_neT h1_101 (a := 101) (by decide); have a4 := lv_neT h1_102 (a := 102) (by decide); have a5 := lv_neT h1_103 (a := 103) (by decide); have a6 := lv_neT h1_104 (a := 104) (by decide); have a7 := lv_neT h1_105 (a := 105) (by decide); have a8 := lv_neT h1_106 (a := 106) (by decide); have a9 := lv_neT h1_107 (a := 107) (by decide); have a10 := lv_neT h1_108 (a := 108) (by decide); have a11 := lv_neT h1_109 (a := 109) (by decide); have a12 := lv_neT h1_110 (a := 110) (by decide); have a13 := lv_neT h1_111 (a := 111) (by decide); have a14 := lv_neT h1_112 (a := 112) (by decide); have a15 := lv_neT h1_113 (a := 113) (by decide); have a16 := lv_neT h1_114 (a := 114) (by decide); have a17 := lv_neT h1_115 (a := 115) (by decide); omega) (by decide) ?_
                                      refine lv_iconst (v := (-1)) hx hb dX8_nameOf_100 (by decide) ?_
                                      exact hret (-1) hg _ _ _ _ hP hS dX8_nameOf_101

/-! SpokenClock$Rule.parseNumber()V -/
abbrev ws_X8_parseNumber (cI cJ cZ cA : ClassId) (q_X_rule q_X_now q_X_now_rule q_X_rule_row q_X_now_rule_cells : Nat) (u_X_rule_stack : Value) (u_X_rule_known : Value) (u_X_rule_isStale : Value) (u_X_now_people : Value) (u_X_now_talks : Value) (u_X_now_dues : Value) (u_X_now_sights : Value) (u_X_now_settings : Value) (u_X_now_stake : Value) (u_X_now_rule_limit : Value) (N_X_now_rule_cells : Nat) (v_X_rule_size : Int32) (v_X_rule_place : Int32) (v_X_rule_fault : Int32) (v_X_now_rule_width : Int32) (v_X_now_rule_size : Int32) (a_X_rule_row : Nat → Int32) (a_X_now_rule_cells : Nat → Int32) : va_W := [(q_X_rule, .inr (8, [.ref q_X_now, .ref q_X_rule_row, u_X_rule_stack, u_X_rule_known, .int v_X_rule_size, .int v_X_rule_place, .int v_X_rule_fault, u_X_rule_isStale])), (q_X_now, .inr (9, [u_X_now_people, u_X_now_talks, u_X_now_dues, u_X_now_sights, .ref q_X_now_rule, u_X_now_settings, u_X_now_stake])), (q_X_now_rule, .inr (7, [.int v_X_now_rule_width, u_X_now_rule_limit, .ref q_X_now_rule_cells, .int v_X_now_rule_size])), (q_X_rule_row, .inl (cI, 40, .inl a_X_rule_row)), (q_X_now_rule_cells, .inl (cI, N_X_now_rule_cells, .inl a_X_now_rule_cells))]
abbrev rm_X8_parseNumber : Room := { frames := 1, cells := 0, slots := 0, locals := 22 }
def g_X8_parseNumber_110 (N_X_now_rule_cells : Nat) (v_X_now_rule_width : Int32) (v_X_now_rule_size : Int32) (a_X_now_rule_cells : Nat → Int32) (x2 : Int32) (v_X_rule_size : Int32) (v_X_rule_place : Int32) (v_X_rule_fault : Int32) (a_X_rule_row : Nat → Int32) : Option (Int32 × Int32 × Int32 × (Nat → Int32)) :=
  (g_X8_emit v_X_rule_fault x2 v_X_rule_size a_X_rule_row).bind fun v3 =>
  some (v3.1, v_X_rule_place, v_X_rule_fault, v3.2)
def g_X8_parseNumber_93 (N_X_now_rule_cells : Nat) (v_X_now_rule_width : Int32) (v_X_now_rule_size : Int32) (a_X_now_rule_cells : Nat → Int32) (x1 : Int32) (x2 : Int32) (v_X_rule_size : Int32) (v_X_rule_place : Int32) (v_X_rule_fault : Int32) (a_X_rule_row : Nat → Int32) : Option (Int32 × Int32 × Int32 × (Nat → Int32)) :=
  if (v_X_rule_place - x1) ≤ 6 then (
    g_X8_parseNumber_110 N_X_now_rule_cells v_X_now_rule_width v_X_now_rule_size a_X_now_rule_cells x2 v_X_rule_size v_X_rule_place v_X_rule_fault a_X_rule_row
  ) else (
    (g_X8_stop x1 2 v_X_rule_fault).bind fun v5 =>
    g_X8_parseNumber_110 N_X_now_rule_cells v_X_now_rule_width v_X_now_rule_size a_X_now_rule_cells x2 v_X_rule_size v_X_rule_place v5 a_X_rule_row
  )
def g_X8_parseNumber_80 (N_X_now_rule_cells : Nat) (v_X_now_rule_width : Int32) (v_X_now_rule_size : Int32) (a_X_now_rule_cells : Nat → Int32) (k7 : Int32 → Int32 → Int32 → Int32 → Int32 → (Nat → Int32) → Option (Int32 × Int32 × Int32 × (Nat → Int32))) (x1 : Int32) (x2 : Int32) (v_X_rule_size : Int32) (v_X_rule_place : Int32) (v_X_rule_fault : Int32) (a_X_rule_row : Nat → Int32) : Option (Int32 × Int32 × Int32 × (Nat → Int32)) :=
  k7 x1 x2 v_X_rule_size (v_X_rule_place + 1) v_X_rule_fault a_X_rule_row
def g_X8_parseNumber_7b (N_X_now_rule_cells : Nat) (v_X_now_rule_width : Int32) (v_X_now_rule_size : Int32) (a_X_now_rule_cells : Nat → Int32) (k7 : Int32 → Int32 → Int32 → Int32 → Int32 → (Nat → Int32) → Option (Int32 × Int32 × Int32 × (Nat → Int32))) (x1 : Int32) (x2 : Int32) (v_X_rule_size : Int32) (v_X_rule_place : Int32) (v_X_rule_fault : Int32) (a_X_rule_row : Nat → Int32) : Option (Int32 × Int32 × Int32 × (Nat → Int32)) :=
  (g_X7_size v_X_now_rule_size).bind fun v1 =>
  if v1 ≤ v_X_rule_place then (
    g_X8_parseNumber_93 N_X_now_rule_cells v_X_now_rule_width v_X_now_rule_size a_X_now_rule_cells x1 x2 v_X_rule_size v_X_rule_place v_X_rule_fault a_X_rule_row
  ) else (
    (g_X7_at N_X_now_rule_cells v_X_now_rule_width v_X_now_rule_size a_X_now_rule_cells v_X_rule_place 0).bind fun v7 =>
    (g_X8_isDigit v7).bind fun v9 =>
    if v9 = 0 then (
      g_X8_parseNumber_93 N_X_now_rule_cells v_X_now_rule_width v_X_now_rule_size a_X_now_rule_cells x1 x2 v_X_rule_size v_X_rule_place v_X_rule_fault a_X_rule_row
    ) else (
      if 6 ≤ (v_X_rule_place - x1) then (
        g_X8_parseNumber_80 N_X_now_rule_cells v_X_now_rule_width v_X_now_rule_size a_X_now_rule_cells k7 x1 x2 v_X_rule_size v_X_rule_place v_X_rule_fault a_X_rule_row
      ) else (
        (g_X7_at N_X_now_rule_cells v_X_now_rule_width v_X_now_rule_size a_X_now_rule_cells v_X_rule_place 0).bind fun v11 =>
        g_X8_parseNumber_80 N_X_now_rule_cells v_X_now_rule_width v_X_now_rule_size a_X_now_rule_cells k7 x1 (((10 * x2) + v11) - 48) v_X_rule_size v_X_rule_place v_X_rule_fault a_X_rule_row
      )
    )
  )
def g_X8_parseNumber_7 (N_X_now_rule_cells : Nat) (v_X_now_rule_width : Int32) (v_X_now_rule_size : Int32) (a_X_now_rule_cells : Nat → Int32) : Nat → Int32 → Int32 → Int32 → Int32 → Int32 → (Nat → Int32) → Option (Int32 × Int32 × Int32 × (Nat → Int32))
  | 0, _, _, _, _, _, _ => none
  | n + 1, x1, x2, v_X_rule_size, v_X_rule_place, v_X_rule_fault, a_X_rule_row => g_X8_parseNumber_7b N_X_now_rule_cells v_X_now_rule_width v_X_now_rule_size a_X_now_rule_cells (g_X8_parseNumber_7 N_X_now_rule_cells v_X_now_rule_width v_X_now_rule_size a_X_now_rule_cells n) x1 x2 v_X_rule_size v_X_rule_place v_X_rule_fault a_X_rule_row
def g_X8_parseNumber (N_X_now_rule_cells : Nat) (v_X_now_rule_width : Int32) (v_X_now_rule_size : Int32) (a_X_now_rule_cells : Nat → Int32) (v_X_rule_size : Int32) (v_X_rule_place : Int32) (v_X_rule_fault : Int32) (a_X_rule_row : Nat → Int32) : Option (Int32 × Int32 × Int32 × (Nat → Int32)) :=
  g_X8_parseNumber_7 N_X_now_rule_cells v_X_now_rule_width v_X_now_rule_size a_X_now_rule_cells zF v_X_rule_place 0 v_X_rule_size v_X_rule_place v_X_rule_fault a_X_rule_row
theorem hd_X8_parseNumber : yX8_parseNumber.cls = RX8 ∧ yX8_parseNumber.cls ≠ "java/lang/invoke/MethodHandle" ∧ yX8_parseNumber.cls ≠ "java/lang/invoke/VarHandle" ∧ (parseMethodDescriptor yX8_parseNumber.desc).map (fun d => d.parameters.length) = some 0 := by decide +kernel
set_option maxHeartbeats 4000000 in
set_option maxRecDepth 100000 in
theorem c_X8_parseNumber (l : Launch) (D : va_G) (cI cJ cZ cA : ClassId) (ga : Nat → Nat) (q_X_rule q_X_now q_X_now_rule q_X_rule_row q_X_now_rule_cells : Nat) (u_X_rule_stack : Value) (u_X_rule_known : Value) (u_X_rule_isStale : Value) (u_X_now_people : Value) (u_X_now_talks : Value) (u_X_now_dues : Value) (u_X_now_sights : Value) (u_X_now_settings : Value) (u_X_now_stake : Value) (u_X_now_rule_limit : Value) (N_X_now_rule_cells : Nat) (v_X_rule_size : Int32) (v_X_rule_place : Int32) (v_X_rule_fault : Int32) (v_X_now_rule_width : Int32) (v_X_now_rule_size : Int32) (a_X_rule_row : Nat → Int32) (a_X_now_rule_cells : Nat → Int32) (o : Int32 × Int32 × Int32 × (Nat → Int32)) (hg : g_X8_parseNumber N_X_now_rule_cells v_X_now_rule_width v_X_now_rule_size a_X_now_rule_cells v_X_rule_size v_X_rule_place v_X_rule_fault a_X_rule_row = some o) : zM l yX8_parseNumber (Cond.code yX8_parseNumber cX8_parseNumber 3 none :: wsL_law) rm_X8_parseNumber D (zTy cI cJ cZ cA) ga [.ref q_X_rule] (ws_X8_parseNumber cI cJ cZ cA q_X_rule q_X_now q_X_now_rule q_X_rule_row q_X_now_rule_cells u_X_rule_stack u_X_rule_known u_X_rule_isStale u_X_now_people u_X_now_talks u_X_now_dues u_X_now_sights u_X_now_settings u_X_now_stake u_X_now_rule_limit N_X_now_rule_cells v_X_rule_size v_X_rule_place v_X_rule_fault v_X_now_rule_width v_X_now_rule_size a_X_rule_row a_X_now_rule_cells) (ws_X8_parseNumber cI cJ cZ cA q_X_rule q_X_now q_X_now_rule q_X_rule_row q_X_now_rule_cells u_X_rule_stack u_X_rule_known u_X_rule_isStale u_X_now_people u_X_now_talks u_X_now_dues u_X_now_sights u_X_now_settings u_X_now_stake u_X_now_rule_limit N_X_now_rule_cells o.1 o.2.1 o.2.2.1 v_X_now_rule_width v_X_now_rule_size o.2.2.2 a_X_now_rule_cells) none := by
  refine zenterV (own := RX8) (by decide) rfl rfl (Nat.le_of_ble_eq_true rfl) ?_
  intro p e s m args below meth c A ls Q S hA hK hG hl hP hD hS hret0
  have hx := S.1
  have hb := S.2.1
  have ht : ∀ w, w ∈ wsL_law → w.before args s = true := fun w h => S.2.2.2.2 w (List.mem_cons_of_mem _ h)
  have hret : ∀ (v_X_rule_size : Int32) (v_X_rule_place : Int32) (v_X_rule_fault : Int32) (a_X_rule_row : Nat → Int32), (some (v_X_rule_size, v_X_rule_place, v_X_rule_fault, a_X_rule_row) : Option (Int32 × Int32 × Int32 × (Nat → Int32))) = some o → ∀ (H : Heap) (locs : List Loc) (pc : Nat) (ls : Array Slot), va_P D vwCl (ws_X8_parseNumber cI cJ cZ cA q_X_rule q_X_now q_X_now_rule q_X_rule_row q_X_now_rule_cells u_X_rule_stack u_X_rule_known u_X_rule_isStale u_X_now_people u_X_now_talks u_X_now_dues u_X_now_sights u_X_now_settings u_X_now_stake u_X_now_rule_limit N_X_now_rule_cells v_X_rule_size v_X_rule_place v_X_rule_fault v_X_now_rule_width v_X_now_rule_size a_X_rule_row a_X_now_rule_cells) H → va_S A s.heap H locs → decode cX8_parseNumber pc = .ok (.return_, 1) → W p l e rm_X8_parseNumber s m args below meth c H locs 0 0 Q (F0 m pc ls []) := by
    intro v_X_rule_size v_X_rule_place v_X_rule_fault a_X_rule_row he; cases he; exact hret0
  have hl : lv_has ls 3 [(0, .ref q_X_rule)] := hl
  have B110 : ∀ (x2 : Int32) (v_X_rule_size : Int32) (v_X_rule_place : Int32) (v_X_rule_fault : Int32) (a_X_rule_row : Nat → Int32) (H : Heap) (locs : List Loc) (ls : Array Slot) (hl : lv_has ls 3 [(0, .ref q_X_rule), (2, .int x2)]) (hP : va_P D vwCl (ws_X8_parseNumber cI cJ cZ cA q_X_rule q_X_now q_X_now_rule q_X_rule_row q_X_now_rule_cells u_X_rule_stack u_X_rule_known u_X_rule_isStale u_X_now_people u_X_now_talks u_X_now_dues u_X_now_sights u_X_now_settings u_X_now_stake u_X_now_rule_limit N_X_now_rule_cells v_X_rule_size v_X_rule_place v_X_rule_fault v_X_now_rule_width v_X_now_rule_size a_X_rule_row a_X_now_rule_cells) H) (hD : va_D A (ws_X8_parseNumber cI cJ cZ cA q_X_rule q_X_now q_X_now_rule q_X_rule_row q_X_now_rule_cells u_X_rule_stack u_X_rule_known u_X_rule_isStale u_X_now_people u_X_now_talks u_X_now_dues u_X_now_sights u_X_now_settings u_X_now_stake u_X_now_rule_limit N_X_now_rule_cells v_X_rule_size v_X_rule_place v_X_rule_fault v_X_now_rule_width v_X_now_rule_size a_X_rule_row a_X_now_rule_cells)) (hS : va_S A s.heap H locs), g_X8_parseNumber_110 N_X_now_rule_cells v_X_now_rule_width v_X_now_rule_size a_X_now_rule_cells x2 v_X_rule_size v_X_rule_place v_X_rule_fault a_X_rule_row = some o → W p l e rm_X8_parseNumber s m args below meth c H locs 0 0 Q (F0 m 110 ls []) := by
    intro  x2 v_X_rule_size v_X_rule_place v_X_rule_fault a_X_rule_row H locs ls hl hP hD hS hg
    refine lv_aload_n hx hb dX8_parseNumber_110 rfl (lv_at hl 0 rfl) ?_
    refine lv_iload_n hx hb dX8_parseNumber_111 rfl (lv_at hl 1 rfl) ?_
    obtain ⟨v3, hc4, hg⟩ := zbd hg
    refine zcallV (rest := []) S (c_X8_emit l D cI cJ cZ cA ga q_X_rule q_X_rule_row (.ref q_X_now) u_X_rule_stack u_X_rule_known (.int v_X_rule_place) u_X_rule_isStale v_X_rule_size v_X_rule_fault a_X_rule_row x2 v3 hc4) (zgV zw_557 zw_558 zw_559 zw_35 zw_560) rfl hd_X8_emit ⟨rfl, rfl⟩ ⟨Nat.le_of_ble_eq_true rfl, Nat.le_of_ble_eq_true rfl⟩ 0 8 rfl rfl rfl hl.1 rfl (Nat.le_of_ble_eq_true rfl) dX8_parseNumber_112 hP hD hS hA hK hG (isC := [0, 3]) rfl rfl rfl (w2 := (ws_X8_parseNumber cI cJ cZ cA q_X_rule q_X_now q_X_now_rule q_X_rule_row q_X_now_rule_cells u_X_rule_stack u_X_rule_known u_X_rule_isStale u_X_now_people u_X_now_talks u_X_now_dues u_X_now_sights u_X_now_settings u_X_now_stake u_X_now_rule_limit N_X_now_rule_cells v3.1 v_X_rule_place v_X_rule_fault v_X_now_rule_width v_X_now_rule_size v3.2 a_X_now_rule_cells)) rfl (st1 := []) rfl (fun H locs hP hD hS => ?_)
    exact hret v3.1 v_X_rule_place v_X_rule_fault v3.2 hg _ _ _ _ hP hS dX8_parseNumber_115
  have B93 : ∀ (x1 : Int32) (x2 : Int32) (v_X_rule_size : Int32) (v_X_rule_place : Int32) (v_X_rule_fault : Int32) (a_X_rule_row : Nat → Int32) (H : Heap) (locs : List Loc) (ls : Array Slot) (hl : lv_has ls 3 [(0, .ref q_X_rule), (1, .int x1), (2, .int x2)]) (hP : va_P D vwCl (ws_X8_parseNumber cI cJ cZ cA q_X_rule q_X_now q_X_now_rule q_X_rule_row q_X_now_rule_cells u_X_rule_stack u_X_rule_known u_X_rule_isStale u_X_now_people u_X_now_talks u_X_now_dues u_X_now_sights u_X_now_settings u_X_now_stake u_X_now_rule_limit N_X_now_rule_cells v_X_rule_size v_X_rule_place v_X_rule_fault v_X_now_rule_width v_X_now_rule_size a_X_rule_row a_X_now_rule_cells) H) (hD : va_D A (ws_X8_parseNumber cI cJ cZ cA q_X_rule q_X_now q_X_now_rule q_X_rule_row q_X_now_rule_cells u_X_rule_stack u_X_rule_known u_X_rule_isStale u_X_now_people u_X_now_talks u_X_now_dues u_X_now_sights u_X_now_settings u_X_now_stake u_X_now_rule_limit N_X_now_rule_cells v_X_rule_size v_X_rule_place v_X_rule_fault v_X_now_rule_width v_X_now_rule_size a_X_rule_row a_X_now_rule_cells)) (hS : va_S A s.heap H locs), g_X8_parseNumber_93 N_X_now_rule_cells v_X_now_rule_width v_X_now_rule_size a_X_now_rule_cells x1 x2 v_X_rule_size v_X_rule_place v_X_rule_fault a_X_rule_row = some o → W p l e rm_X8_parseNumber s m args below meth c H locs 0 0 Q (F0 m 93 ls []) := by
    intro  x1 x2 v_X_rule_size v_X_rule_place v_X_rule_fault a_X_rule_row H locs ls hl hP hD hS hg
    refine lv_aload_n hx hb dX8_parseNumber_93 rfl (lv_at hl 0 rfl) ?_
    refine zget (C := RX8) (T := TX8) (N := 8) S hK hP 0 rfl rfl 5 (Nat.le_of_ble_eq_true rfl) zf_8 zw_538 rfl dX8_parseNumber_94 ?_
    refine lv_iload_n hx hb dX8_parseNumber_97 rfl (lv_at hl 1 rfl) ?_
    refine lv_isub hx hb dX8_parseNumber_98 ?_
    refine lv_bipush (v := 6) hx hb dX8_parseNumber_99 (by decide) ?_
    refine lv_icmp_le (tgt := 110) hx hb dX8_parseNumber_101 (by decide) (fun h101 => ?_) (fun h101 => ?_)
    · have hg := zp hg h101
      exact B110 x2 v_X_rule_size v_X_rule_place v_X_rule_fault a_X_rule_row _ _ _ (lv_sub hl [0, 2] rfl) hP hD hS hg
    · have hg := zn hg h101
      refine lv_aload_n hx hb dX8_parseNumber_104 rfl (lv_at hl 0 rfl) ?_
      refine lv_iload_n hx hb dX8_parseNumber_105 rfl (lv_at hl 1 rfl) ?_
      refine lv_iconst (v := 2) hx hb dX8_parseNumber_106 (by decide) ?_
      obtain ⟨v5, hc6, hg⟩ := zbd hg
      refine zcallV (rest := []) S (c_X8_stop l D cI cJ cZ cA ga q_X_rule (.ref q_X_now) (.ref q_X_rule_row) u_X_rule_stack u_X_rule_known (.int v_X_rule_size) (.int v_X_rule_place) u_X_rule_isStale v_X_rule_fault x1 2 v5 hc6) (zgV zw_569 zw_570 zw_571 zw_35 zw_572) rfl hd_X8_stop ⟨rfl, rfl⟩ ⟨Nat.le_of_ble_eq_true rfl, Nat.le_of_ble_eq_true rfl⟩ 0 8 rfl rfl rfl hl.1 rfl (Nat.le_of_ble_eq_true rfl) dX8_parseNumber_107 hP hD hS hA hK hG (isC := [0]) rfl rfl rfl (w2 := (ws_X8_parseNumber cI cJ cZ cA q_X_rule q_X_now q_X_now_rule q_X_rule_row q_X_now_rule_cells u_X_rule_stack u_X_rule_known u_X_rule_isStale u_X_now_people u_X_now_talks u_X_now_dues u_X_now_sights u_X_now_settings u_X_now_stake u_X_now_rule_limit N_X_now_rule_cells v_X_rule_size v_X_rule_place v5 v_X_now_rule_width v_X_now_rule_size a_X_rule_row a_X_now_rule_cells)) rfl (st1 := []) rfl (fun H locs hP hD hS => ?_)
      exact B110 x2 v_X_rule_size v_X_rule_place v5 a_X_rule_row _ _ _ (lv_sub hl [0, 2] rfl) hP hD hS hg
  have B80 : ∀ (k7 : Int32 → Int32 → Int32 → Int32 → Int32 → (Nat → Int32) → Option (Int32 × Int32 × Int32 × (Nat → Int32))) (hk7 : ∀ (x1 : Int32) (x2 : Int32) (v_X_rule_size : Int32) (v_X_rule_place : Int32) (v_X_rule_fault : Int32) (a_X_rule_row : Nat → Int32) (H : Heap) (locs : List Loc) (ls : Array Slot) (hl : lv_has ls 3 [(0, .ref q_X_rule), (1, .int x1), (2, .int x2)]) (hP : va_P D vwCl (ws_X8_parseNumber cI cJ cZ cA q_X_rule q_X_now q_X_now_rule q_X_rule_row q_X_now_rule_cells u_X_rule_stack u_X_rule_known u_X_rule_isStale u_X_now_people u_X_now_talks u_X_now_dues u_X_now_sights u_X_now_settings u_X_now_stake u_X_now_rule_limit N_X_now_rule_cells v_X_rule_size v_X_rule_place v_X_rule_fault v_X_now_rule_width v_X_now_rule_size a_X_rule_row a_X_now_rule_cells) H) (hD : va_D A (ws_X8_parseNumber cI cJ cZ cA q_X_rule q_X_now q_X_now_rule q_X_rule_row q_X_now_rule_cells u_X_rule_stack u_X_rule_known u_X_rule_isStale u_X_now_people u_X_now_talks u_X_now_dues u_X_now_sights u_X_now_settings u_X_now_stake u_X_now_rule_limit N_X_now_rule_cells v_X_rule_size v_X_rule_place v_X_rule_fault v_X_now_rule_width v_X_now_rule_size a_X_rule_row a_X_now_rule_cells)) (hS : va_S A s.heap H locs), k7 x1 x2 v_X_rule_size v_X_rule_place v_X_rule_fault a_X_rule_row = some o → W p l e rm_X8_parseNumber s m args below meth c H locs 0 0 Q (F0 m 7 ls [])) (x1 : Int32) (x2 : Int32) (v_X_rule_size : Int32) (v_X_rule_place : Int32) (v_X_rule_fault : Int32) (a_X_rule_row : Nat → Int32) (H : Heap) (locs : List Loc) (ls : Array Slot) (hl : lv_has ls 3 [(0, .ref q_X_rule), (1, .int x1), (2, .int x2)]) (hP : va_P D vwCl (ws_X8_parseNumber cI cJ cZ cA q_X_rule q_X_now q_X_now_rule q_X_rule_row q_X_now_rule_cells u_X_rule_stack u_X_rule_known u_X_rule_isStale u_X_now_people u_X_now_talks u_X_now_dues u_X_now_sights u_X_now_settings u_X_now_stake u_X_now_rule_limit N_X_now_rule_cells v_X_rule_size v_X_rule_place v_X_rule_fault v_X_now_rule_width v_X_now_rule_size a_X_rule_row a_X_now_rule_cells) H) (hD : va_D A (ws_X8_parseNumber cI cJ cZ cA q_X_rule q_X_now q_X_now_rule q_X_rule_row q_X_now_rule_cells u_X_rule_stack u_X_rule_known u_X_rule_isStale u_X_now_people u_X_now_talks u_X_now_dues u_X_now_sights u_X_now_settings u_X_now_stake u_X_now_rule_limit N_X_now_rule_cells v_X_rule_size v_X_rule_place v_X_rule_fault v_X_now_rule_width v_X_now_rule_size a_X_rule_row a_X_now_rule_cells)) (hS : va_S A s.heap H locs), g_X8_parseNumber_80 N_X_now_rule_cells v_X_now_rule_width v_X_now_rule_size a_X_now_rule_cells k7 x1 x2 v_X_rule_size v_X_rule_place v_X_rule_fault a_X_rule_row = some o → W p l e rm_X8_parseNumber s m args below meth c H locs 0 0 Q (F0 m 80 ls []) := by
    intro k7 hk7 x1 x2 v_X_rule_size v_X_rule_place v_X_rule_fault a_X_rule_row H locs ls hl hP hD hS hg
    refine lv_aload_n hx hb dX8_parseNumber_80 rfl (lv_at hl 0 rfl) ?_
    refine lv_dup hx hb dX8_parseNumber_81 rfl ?_
    refine zget (C := RX8) (T := TX8) (N := 8) S hK hP 0 rfl rfl 5 (Nat.le_of_ble_eq_true rfl) zf_8 zw_538 rfl dX8_parseNumber_82 ?_
    refine lv_iconst (v := 1) hx hb dX8_parseNumber_85 (by decide) ?_
    refine lv_iadd hx hb dX8_parseNumber_86 ?_
    refine zputf (C := RX8) (T := TX8) (N := 8) (ty := .int) S hK hP hD hS 0 rfl rfl 5 (Nat.le_of_ble_eq_true rfl) zf_8 tyX8 tyX8_ok nmX8 zw_538 rfl (by decide +kernel) rfl rfl (Nat.le_of_ble_eq_true rfl) dX8_parseNumber_87 (w2 := (ws_X8_parseNumber cI cJ cZ cA q_X_rule q_X_now q_X_now_rule q_X_rule_row q_X_now_rule_cells u_X_rule_stack u_X_rule_known u_X_rule_isStale u_X_now_people u_X_now_talks u_X_now_dues u_X_now_sights u_X_now_settings u_X_now_stake u_X_now_rule_limit N_X_now_rule_cells v_X_rule_size (v_X_rule_place + 1) v_X_rule_fault v_X_now_rule_width v_X_now_rule_size a_X_rule_row a_X_now_rule_cells)) rfl (fun H locs hP hD hS => ?_)
    refine lv_goto (tgt := 7) hx hb dX8_parseNumber_90 (by decide) ?_
    exact hk7 x1 x2 v_X_rule_size (v_X_rule_place + 1) v_X_rule_fault a_X_rule_row _ _ _ hl hP hD hS hg
  have B7 : ∀  (n : Nat) (x1 : Int32) (x2 : Int32) (v_X_rule_size : Int32) (v_X_rule_place : Int32) (v_X_rule_fault : Int32) (a_X_rule_row : Nat → Int32) (H : Heap) (locs : List Loc) (ls : Array Slot) (hl : lv_has ls 3 [(0, .ref q_X_rule), (1, .int x1), (2, .int x2)]) (hP : va_P D vwCl (ws_X8_parseNumber cI cJ cZ cA q_X_rule q_X_now q_X_now_rule q_X_rule_row q_X_now_rule_cells u_X_rule_stack u_X_rule_known u_X_rule_isStale u_X_now_people u_X_now_talks u_X_now_dues u_X_now_sights u_X_now_settings u_X_now_stake u_X_now_rule_limit N_X_now_rule_cells v_X_rule_size v_X_rule_place v_X_rule_fault v_X_now_rule_width v_X_now_rule_size a_X_rule_row a_X_now_rule_cells) H) (hD : va_D A (ws_X8_parseNumber cI cJ cZ cA q_X_rule q_X_now q_X_now_rule q_X_rule_row q_X_now_rule_cells u_X_rule_stack u_X_rule_known u_X_rule_isStale u_X_now_people u_X_now_talks u_X_now_dues u_X_now_sights u_X_now_settings u_X_now_stake u_X_now_rule_limit N_X_now_rule_cells v_X_rule_size v_X_rule_place v_X_rule_fault v_X_now_rule_width v_X_now_rule_size a_X_rule_row a_X_now_rule_cells)) (hS : va_S A s.heap H locs), g_X8_parseNumber_7 N_X_now_rule_cells v_X_now_rule_width v_X_now_rule_size a_X_now_rule_cells n x1 x2 v_X_rule_size v_X_rule_place v_X_rule_fault a_X_rule_row = some o → W p l e rm_X8_parseNumber s m args below meth c H locs 0 0 Q (F0 m 7 ls []) := by
    intro  n
    induction n with
    | zero => intro x1 x2 v_X_rule_size v_X_rule_place v_X_rule_fault a_X_rule_row H locs ls hl hP hD hS hg; exact nomatch (show (none : Option (Int32 × Int32 × Int32 × (Nat → Int32))) = some o from hg)
    | succ n ih =>
      intro x1 x2 v_X_rule_size v_X_rule_place v_X_rule_fault a_X_rule_row H locs ls hl hP hD hS hg
      have hg : g_X8_parseNumber_7b N_X_now_rule_cells v_X_now_rule_width v_X_now_rule_size a_X_now_rule_cells (g_X8_parseNumber_7 N_X_now_rule_cells v_X_now_rule_width v_X_now_rule_size a_X_now_rule_cells n) x1 x2 v_X_rule_size v_X_rule_place v_X_rule_fault a_X_rule_row = some o := hg
      refine lv_aload_n hx hb dX8_parseNumber_7 rfl (lv_at hl 0 rfl) ?_
      refine zget (C := RX8) (T := TX8) (N := 8) S hK hP 0 rfl rfl 5 (Nat.le_of_ble_eq_true rfl) zf_8 zw_538 rfl dX8_parseNumber_8 ?_
      refine lv_aload_n hx hb dX8_parseNumber_11 rfl (lv_at hl 0 rfl) ?_
      refine zget (C := RX8) (T := TX8) (N := 8) S hK hP 0 rfl rfl 0 (Nat.le_of_ble_eq_true rfl) zf_8 zw_111 rfl dX8_parseNumber_12 ?_
      refine zget (C := RX9) (T := TX9) (N := 7) S hK hP 1 rfl rfl 4 (Nat.le_of_ble_eq_true rfl) zf_9 zw_551 rfl dX8_parseNumber_15 ?_
      obtain ⟨v1, hc2, hg⟩ := zbd hg
      refine zcallV (rest := [.int v_X_rule_place]) S (c_X7_size l D cI cJ cZ cA ga q_X_now_rule (.int v_X_now_rule_width) u_X_now_rule_limit (.ref q_X_now_rule_cells) v_X_now_rule_size v1 hc2) (zgV zw_552 zw_180 zw_181 zw_32 zw_182) rfl hd_X7_size ⟨rfl, rfl⟩ ⟨Nat.le_of_ble_eq_true rfl, Nat.le_of_ble_eq_true rfl⟩ 2 7 rfl rfl rfl hl.1 rfl (Nat.le_of_ble_eq_true rfl) dX8_parseNumber_18 hP hD hS hA hK hG (isC := [2]) rfl rfl rfl (w2 := (ws_X8_parseNumber cI cJ cZ cA q_X_rule q_X_now q_X_now_rule q_X_rule_row q_X_now_rule_cells u_X_rule_stack u_X_rule_known u_X_rule_isStale u_X_now_people u_X_now_talks u_X_now_dues u_X_now_sights u_X_now_settings u_X_now_stake u_X_now_rule_limit N_X_now_rule_cells v_X_rule_size v_X_rule_place v_X_rule_fault v_X_now_rule_width v_X_now_rule_size a_X_rule_row a_X_now_rule_cells)) rfl (st1 := [.int v1, .int v_X_rule_place]) rfl (fun H locs hP hD hS => ?_)
      refine lv_icmp_ge (tgt := 93) hx hb dX8_parseNumber_21 (by decide) (fun h21 => ?_) (fun h21 => ?_)
      · have hg := zp hg h21
        exact B93 x1 x2 v_X_rule_size v_X_rule_place v_X_rule_fault a_X_rule_row _ _ _ hl hP hD hS hg
      · have hg := zn hg h21
        refine lv_aload_n hx hb dX8_parseNumber_24 rfl (lv_at hl 0 rfl) ?_
        refine zget (C := RX8) (T := TX8) (N := 8) S hK hP 0 rfl rfl 0 (Nat.le_of_ble_eq_true rfl) zf_8 zw_111 rfl dX8_parseNumber_25 ?_
        refine zget (C := RX9) (T := TX9) (N := 7) S hK hP 1 rfl rfl 4 (Nat.le_of_ble_eq_true rfl) zf_9 zw_551 rfl dX8_parseNumber_28 ?_
        refine lv_aload_n hx hb dX8_parseNumber_31 rfl (lv_at hl 0 rfl) ?_
        refine zget (C := RX8) (T := TX8) (N := 8) S hK hP 0 rfl rfl 5 (Nat.le_of_ble_eq_true rfl) zf_8 zw_538 rfl dX8_parseNumber_32 ?_
        refine lv_iconst (v := 0) hx hb dX8_parseNumber_35 (by decide) ?_
        obtain ⟨v7, hc8, hg⟩ := zbd hg
        refine zcallV (rest := []) S (c_X7_at l D cI cJ cZ cA ga q_X_now_rule q_X_now_rule_cells u_X_now_rule_limit N_X_now_rule_cells v_X_now_rule_width v_X_now_rule_size a_X_now_rule_cells v_X_rule_place 0 v7 hc8) (zgV zw_553 zw_353 zw_354 zw_32 zw_355) rfl hd_X7_at ⟨rfl, rfl⟩ ⟨Nat.le_of_ble_eq_true rfl, Nat.le_of_ble_eq_true rfl⟩ 2 7 rfl rfl rfl hl.1 rfl (Nat.le_of_ble_eq_true rfl) dX8_parseNumber_36 hP hD hS hA hK hG (isC := [2, 4]) rfl rfl rfl (w2 := (ws_X8_parseNumber cI cJ cZ cA q_X_rule q_X_now q_X_now_rule q_X_rule_row q_X_now_rule_cells u_X_rule_stack u_X_rule_known u_X_rule_isStale u_X_now_people u_X_now_talks u_X_now_dues u_X_now_sights u_X_now_settings u_X_now_stake u_X_now_rule_limit N_X_now_rule_cells v_X_rule_size v_X_rule_place v_X_rule_fault v_X_now_rule_width v_X_now_rule_size a_X_rule_row a_X_now_rule_cells)) rfl (st1 := [.int v7]) rfl (fun H locs hP hD hS => ?_)
        obtain ⟨v9, hc10, hg⟩ := zbd hg
        refine zcallS (rest := []) S (c_X8_isDigit l D cI cJ cZ cA ga v7 v9 hc10) (zgS zw_562 zw_563 zw_35 zw_564) rfl hd_X8_isDigit ⟨rfl, rfl⟩ ⟨Nat.le_of_ble_eq_true rfl, Nat.le_of_ble_eq_true rfl⟩ rfl hl.1 rfl (Nat.le_of_ble_eq_true rfl) dX8_parseNumber_39 hP hD hS hA hK hG (isC := []) rfl rfl rfl (w2 := (ws_X8_parseNumber cI cJ cZ cA q_X_rule q_X_now q_X_now_rule q_X_rule_row q_X_now_rule_cells u_X_rule_stack u_X_rule_known u_X_rule_isStale u_X_now_people u_X_now_talks u_X_now_dues u_X_now_sights u_X_now_settings u_X_now_stake u_X_now_rule_limit N_X_now_rule_cells v_X_rule_size v_X_rule_place v_X_rule_fault v_X_now_rule_width v_X_now_rule_size a_X_rule_row a_X_now_rule_cells)) rfl (st1 := [.int v9]) rfl (fun H locs hP hD hS => ?_)
        refine lv_if_eq (tgt := 93) hx hb dX8_parseNumber_42 (by decide) (fun h42 => ?_) (fun h42 => ?_)
        · have hg := zp hg h42
          exact B93 x1 x2 v_X_rule_size v_X_rule_place v_X_rule_fault a_X_rule_row _ _ _ hl hP hD hS hg
        · have hg := zn hg h42
          refine lv_aload_n hx hb dX8_parseNumber_45 rfl (lv_at hl 0 rfl) ?_
          refine zget (C := RX8) (T := TX8) (N := 8) S hK hP 0 rfl rfl 5 (Nat.le_of_ble_eq_true rfl) zf_8 zw_538 rfl dX8_parseNumber_46 ?_
          refine lv_iload_n hx hb dX8_parseNumber_49 rfl (lv_at hl 1 rfl) ?_
          refine lv_isub hx hb dX8_parseNumber_50 ?_
          refine lv_bipush (v := 6) hx hb dX8_parseNumber_51 (by decide) ?_
          refine lv_icmp_ge (tgt := 80) hx hb dX8_parseNumber_53 (by decide) (fun h53 => ?_) (fun h53 => ?_)
          · have hg := zp hg h53
            exact B80 (g_X8_parseNumber_7 N_X_now_rule_cells v_X_now_rule_width v_X_now_rule_size a_X_now_rule_cells n) ih x1 x2 v_X_rule_size v_X_rule_place v_X_rule_fault a_X_rule_row _ _ _ hl hP hD hS hg
          · have hg := zn hg h53
            refine lv_bipush (v := 10) hx hb dX8_parseNumber_56 (by decide) ?_
            refine lv_iload_n hx hb dX8_parseNumber_58 rfl (lv_at hl 2 rfl) ?_
            refine lv_imul hx hb dX8_parseNumber_59 ?_
            refine lv_aload_n hx hb dX8_parseNumber_60 rfl (lv_at hl 0 rfl) ?_
            refine zget (C := RX8) (T := TX8) (N := 8) S hK hP 0 rfl rfl 0 (Nat.le_of_ble_eq_true rfl) zf_8 zw_111 rfl dX8_parseNumber_61 ?_
            refine zget (C := RX9) (T := TX9) (N := 7) S hK hP 1 rfl rfl 4 (Nat.le_of_ble_eq_true rfl) zf_9 zw_551 rfl dX8_parseNumber_64 ?_
            refine lv_aload_n hx hb dX8_parseNumber_67 rfl (lv_at hl 0 rfl) ?_
            refine zget (C := RX8) (T := TX8) (N := 8) S hK hP 0 rfl rfl 5 (Nat.le_of_ble_eq_true rfl) zf_8 zw_538 rfl dX8_parseNumber_68 ?_
            refine lv_iconst (v := 0) hx hb dX8_parseNumber_71 (by decide) ?_
            obtain ⟨v11, hc12, hg⟩ := zbd hg
            refine zcallV (rest := [.int (10 * x2)]) S (c_X7_at l D cI cJ cZ cA ga q_X_now_rule q_X_now_rule_cells u_X_now_rule_limit N_X_now_rule_cells v_X_now_rule_width v_X_now_rule_size a_X_now_rule_cells v_X_rule_place 0 v11 hc12) (zgV zw_553 zw_353 zw_354 zw_32 zw_355) rfl hd_X7_at ⟨rfl, rfl⟩ ⟨Nat.le_of_ble_eq_true rfl, Nat.le_of_ble_eq_true rfl⟩ 2 7 rfl rfl rfl hl.1 rfl (Nat.le_of_ble_eq_true rfl) dX8_parseNumber_72 hP hD hS hA hK hG (isC := [2, 4]) rfl rfl rfl (w2 := (ws_X8_parseNumber cI cJ cZ cA q_X_rule q_X_now q_X_now_rule q_X_rule_row q_X_now_rule_cells u_X_rule_stack u_X_rule_known u_X_rule_isStale u_X_now_people u_X_now_talks u_X_now_dues u_X_now_sights u_X_now_settings u_X_now_stake u_X_now_rule_limit N_X_now_rule_cells v_X_rule_size v_X_rule_place v_X_rule_fault v_X_now_rule_width v_X_now_rule_size a_X_rule_row a_X_now_rule_cells)) rfl (st1 := [.int v11, .int (10 * x2)]) rfl (fun H locs hP hD hS => ?_)
            refine lv_iadd hx hb dX8_parseNumber_75 ?_
            refine lv_bipush (v := 48) hx hb dX8_parseNumber_76 (by decide) ?_
            refine lv_isub hx hb dX8_parseNumber_78 ?_
            refine lv_istore_n (lv' := [(2, .int (((10 * x2) + v11) - 48)), (0, .ref q_X_rule), (1, .int x1)]) hx hb dX8_parseNumber_79 rfl hl (by decide) rfl (fun ls hl => ?_)
            exact B80 (g_X8_parseNumber_7 N_X_now_rule_cells v_X_now_rule_width v_X_now_rule_size a_X_now_rule_cells n) ih x1 (((10 * x2) + v11) - 48) v_X_rule_size v_X_rule_place v_X_rule_fault a_X_rule_row _ _ _ (lv_sub hl [1, 2, 0] rfl) hP hD hS hg
  refine lv_aload_n hx hb dX8_parseNumber_0 rfl (lv_at hl 0 rfl) ?_
  refine zget (C := RX8) (T := TX8) (N := 8) S hK hP 0 rfl rfl 5 (Nat.le_of_ble_eq_true rfl) zf_8 zw_538 rfl dX8_parseNumber_1 ?_
  refine lv_istore_n (lv' := [(1, .int v_X_rule_place), (0, .ref q_X_rule)]) hx hb dX8_parseNumber_4 rfl hl (by decide) rfl (fun ls hl => ?_)
  refine lv_iconst (v := 0) hx hb dX8_parseNumber_5 (by decide) ?_
  refine lv_istore_n (lv' := [(2, .int 0), (1, .int v_X_rule_place), (0, .ref q_X_rule)]) hx hb dX8_parseNumber_6 rfl hl (by decide) rfl (fun ls hl => ?_)
  exact B7 zF v_X_rule_place 0 v_X_rule_size v_X_rule_place v_X_rule_fault a_X_rule_row _ _ _ (lv_sub hl [2, 1, 0] rfl) hP hD hS hg

