/-! SpokenClock$State.mixed(J)J -/
abbrev ws_X9_mixed (cI cJ cZ cA : ClassId) (q_S q_S_settings q_S_sights q_S_dues q_S_talks q_S_people q_S_people_cells q_S_talks_cells q_S_dues_cells q_S_sights_cells q_S_rule q_S_stake q_S_rule_cells : Nat) (u_S_people_limit : Value) (u_S_talks_limit : Value) (u_S_dues_limit : Value) (u_S_sights_limit : Value) (u_S_rule_limit : Value) (N_S_people_cells : Nat) (N_S_talks_cells : Nat) (N_S_dues_cells : Nat) (N_S_sights_cells : Nat) (N_S_rule_cells : Nat) (a_S_settings : Nat → Int32) (v_S_people_width : Int32) (v_S_people_size : Int32) (a_S_people_cells : Nat → Int32) (v_S_talks_width : Int32) (v_S_talks_size : Int32) (a_S_talks_cells : Nat → Int32) (v_S_dues_width : Int32) (v_S_dues_size : Int32) (a_S_dues_cells : Nat → Int32) (v_S_sights_width : Int32) (v_S_sights_size : Int32) (a_S_sights_cells : Nat → Int32) (a_S_stake : Nat → Int32) (v_S_rule_width : Int32) (v_S_rule_size : Int32) (a_S_rule_cells : Nat → Int32) : va_W := [(q_S, .inr (9, [.ref q_S_people, .ref q_S_talks, .ref q_S_dues, .ref q_S_sights, .ref q_S_rule, .ref q_S_settings, .ref q_S_stake])), (q_S_settings, .inl (cI, 3, .inl a_S_settings)), (q_S_people, .inr (7, [.int v_S_people_width, u_S_people_limit, .ref q_S_people_cells, .int v_S_people_size])), (q_S_people_cells, .inl (cI, N_S_people_cells, .inl a_S_people_cells)), (q_S_talks, .inr (7, [.int v_S_talks_width, u_S_talks_limit, .ref q_S_talks_cells, .int v_S_talks_size])), (q_S_talks_cells, .inl (cI, N_S_talks_cells, .inl a_S_talks_cells)), (q_S_dues, .inr (7, [.int v_S_dues_width, u_S_dues_limit, .ref q_S_dues_cells, .int v_S_dues_size])), (q_S_dues_cells, .inl (cI, N_S_dues_cells, .inl a_S_dues_cells)), (q_S_sights, .inr (7, [.int v_S_sights_width, u_S_sights_limit, .ref q_S_sights_cells, .int v_S_sights_size])), (q_S_sights_cells, .inl (cI, N_S_sights_cells, .inl a_S_sights_cells)), (q_S_stake, .inl (cI, 5, .inl a_S_stake)), (q_S_rule, .inr (7, [.int v_S_rule_width, u_S_rule_limit, .ref q_S_rule_cells, .int v_S_rule_size])), (q_S_rule_cells, .inl (cI, N_S_rule_cells, .inl a_S_rule_cells))]
abbrev rm_X9_mixed : Room := { frames := 1, cells := 0, slots := 0, locals := 28 }
def g_X9_mixed (N_S_people_cells : Nat) (N_S_talks_cells : Nat) (N_S_dues_cells : Nat) (N_S_sights_cells : Nat) (N_S_rule_cells : Nat) (a_S_settings : Nat → Int32) (v_S_people_width : Int32) (v_S_people_size : Int32) (a_S_people_cells : Nat → Int32) (v_S_talks_width : Int32) (v_S_talks_size : Int32) (a_S_talks_cells : Nat → Int32) (v_S_dues_width : Int32) (v_S_dues_size : Int32) (a_S_dues_cells : Nat → Int32) (v_S_sights_width : Int32) (v_S_sights_size : Int32) (a_S_sights_cells : Nat → Int32) (a_S_stake : Nat → Int32) (v_S_rule_width : Int32) (v_S_rule_size : Int32) (a_S_rule_cells : Nat → Int32) (x1 : Int64) : Option (Int64) :=
  (g_X9_mixedWith 3 a_S_settings x1).bind fun v1 =>
  (g_X7_mixed N_S_people_cells v_S_people_width v_S_people_size a_S_people_cells v1).bind fun v3 =>
  (g_X7_mixed N_S_talks_cells v_S_talks_width v_S_talks_size a_S_talks_cells v3).bind fun v5 =>
  (g_X7_mixed N_S_dues_cells v_S_dues_width v_S_dues_size a_S_dues_cells v5).bind fun v7 =>
  (g_X7_mixed N_S_sights_cells v_S_sights_width v_S_sights_size a_S_sights_cells v7).bind fun v9 =>
  (g_X9_mixedWith 5 a_S_stake v9).bind fun v11 =>
  (g_X7_mixed N_S_rule_cells v_S_rule_width v_S_rule_size a_S_rule_cells v11).bind fun v13 =>
  some (v13)
theorem hd_X9_mixed : yX9_mixed.cls = RX9 ∧ yX9_mixed.cls ≠ "java/lang/invoke/MethodHandle" ∧ yX9_mixed.cls ≠ "java/lang/invoke/VarHandle" ∧ (parseMethodDescriptor yX9_mixed.desc).map (fun d => d.parameters.length) = some 1 := by decide +kernel
set_option maxHeartbeats 4000000 in
set_option maxRecDepth 100000 in
theorem c_X9_mixed (l : Launch) (D : va_G) (cI cJ cZ cA : ClassId) (ga : Nat → Nat) (q_S q_S_settings q_S_sights q_S_dues q_S_talks q_S_people q_S_people_cells q_S_talks_cells q_S_dues_cells q_S_sights_cells q_S_rule q_S_stake q_S_rule_cells : Nat) (u_S_people_limit : Value) (u_S_talks_limit : Value) (u_S_dues_limit : Value) (u_S_sights_limit : Value) (u_S_rule_limit : Value) (N_S_people_cells : Nat) (N_S_talks_cells : Nat) (N_S_dues_cells : Nat) (N_S_sights_cells : Nat) (N_S_rule_cells : Nat) (a_S_settings : Nat → Int32) (v_S_people_width : Int32) (v_S_people_size : Int32) (a_S_people_cells : Nat → Int32) (v_S_talks_width : Int32) (v_S_talks_size : Int32) (a_S_talks_cells : Nat → Int32) (v_S_dues_width : Int32) (v_S_dues_size : Int32) (a_S_dues_cells : Nat → Int32) (v_S_sights_width : Int32) (v_S_sights_size : Int32) (a_S_sights_cells : Nat → Int32) (a_S_stake : Nat → Int32) (v_S_rule_width : Int32) (v_S_rule_size : Int32) (a_S_rule_cells : Nat → Int32) (x1 : Int64) (o : Int64) (hg : g_X9_mixed N_S_people_cells N_S_talks_cells N_S_dues_cells N_S_sights_cells N_S_rule_cells a_S_settings v_S_people_width v_S_people_size a_S_people_cells v_S_talks_width v_S_talks_size a_S_talks_cells v_S_dues_width v_S_dues_size a_S_dues_cells v_S_sights_width v_S_sights_size a_S_sights_cells a_S_stake v_S_rule_width v_S_rule_size a_S_rule_cells x1 = some o) : zM l yX9_mixed (Cond.code yX9_mixed cX9_mixed 5 (some .long) :: wsL_law) rm_X9_mixed D (zTy cI cJ cZ cA) ga [.ref q_S, .long x1] (ws_X9_mixed cI cJ cZ cA q_S q_S_settings q_S_sights q_S_dues q_S_talks q_S_people q_S_people_cells q_S_talks_cells q_S_dues_cells q_S_sights_cells q_S_rule q_S_stake q_S_rule_cells u_S_people_limit u_S_talks_limit u_S_dues_limit u_S_sights_limit u_S_rule_limit N_S_people_cells N_S_talks_cells N_S_dues_cells N_S_sights_cells N_S_rule_cells a_S_settings v_S_people_width v_S_people_size a_S_people_cells v_S_talks_width v_S_talks_size a_S_talks_cells v_S_dues_width v_S_dues_size a_S_dues_cells v_S_sights_width v_S_sights_size a_S_sights_cells a_S_stake v_S_rule_width v_S_rule_size a_S_rule_cells) (ws_X9_mixed cI cJ cZ cA q_S q_S_settings q_S_sights q_S_dues q_S_talks q_S_people q_S_people_cells q_S_talks_cells q_S_dues_cells q_S_sights_cells q_S_rule q_S_stake q_S_rule_cells u_S_people_limit u_S_talks_limit u_S_dues_limit u_S_sights_limit u_S_rule_limit N_S_people_cells N_S_talks_cells N_S_dues_cells N_S_sights_cells N_S_rule_cells a_S_settings v_S_people_width v_S_people_size a_S_people_cells v_S_talks_width v_S_talks_size a_S_talks_cells v_S_dues_width v_S_dues_size a_S_dues_cells v_S_sights_width v_S_sights_size a_S_sights_cells a_S_stake v_S_rule_width v_S_rule_size a_S_rule_cells) (some (.long o)) := by
  refine zenterL (own := RX9) (by decide) rfl rfl (Nat.le_of_ble_eq_true rfl) ?_
  intro p e s m args below meth c A ls Q S hA hK hG hl hP hD hS hret0
  have hx := S.1
  have hb := S.2.1
  have ht : ∀ w, w ∈ wsL_law → w.before args s = true := fun w h => S.2.2.2.2 w (List.mem_cons_of_mem _ h)
  have hret : ∀ (r9 : Int64), (some (r9) : Option (Int64)) = some o → ∀ (H : Heap) (locs : List Loc) (pc : Nat) (ls : Array Slot), va_P D vwCl (ws_X9_mixed cI cJ cZ cA q_S q_S_settings q_S_sights q_S_dues q_S_talks q_S_people q_S_people_cells q_S_talks_cells q_S_dues_cells q_S_sights_cells q_S_rule q_S_stake q_S_rule_cells u_S_people_limit u_S_talks_limit u_S_dues_limit u_S_sights_limit u_S_rule_limit N_S_people_cells N_S_talks_cells N_S_dues_cells N_S_sights_cells N_S_rule_cells a_S_settings v_S_people_width v_S_people_size a_S_people_cells v_S_talks_width v_S_talks_size a_S_talks_cells v_S_dues_width v_S_dues_size a_S_dues_cells v_S_sights_width v_S_sights_size a_S_sights_cells a_S_stake v_S_rule_width v_S_rule_size a_S_rule_cells) H → va_S A s.heap H locs → decode cX9_mixed pc = .ok (.lreturn, 1) → W p l e rm_X9_mixed s m args below meth c H locs 0 0 Q (F0 m pc ls [.long r9]) := by
    intro r9 he; cases he; exact hret0
  have hl : lv_has ls 5 [(0, .ref q_S), (1, .long x1)] := hl
  refine lv_lload_n hx hb dX9_mixed_0 rfl (lv_at hl 1 rfl) ?_
  refine lv_aload_n hx hb dX9_mixed_1 rfl (lv_at hl 0 rfl) ?_
  refine zget (C := RX9) (T := TX9) (N := 7) S hK hP 0 rfl rfl 5 (Nat.le_of_ble_eq_true rfl) zf_9 zw_85 rfl dX9_mixed_2 ?_
  obtain ⟨v1, hc2, hg⟩ := zbd hg
  refine zcallS (rest := []) S (c_X9_mixedWith l D cI cJ cZ cA ga q_S_settings 3 a_S_settings x1 v1 hc2) (zgS zw_1068 zw_1069 zw_23 zw_1070) rfl hd_X9_mixedWith ⟨rfl, rfl⟩ ⟨Nat.le_of_ble_eq_true rfl, Nat.le_of_ble_eq_true rfl⟩ rfl hl.1 rfl (Nat.le_of_ble_eq_true rfl) dX9_mixed_5 hP hD hS hA hK hG (isC := [1]) rfl (by decide +kernel) rfl ⟨Nat.zero_le _, Nat.zero_le _⟩ (pl := [none, some 0, none, none, none, none, none, none, none, none, none, none, none]) (nw := 13) rfl (by decide +kernel) (w2 := (ws_X9_mixed cI cJ cZ cA q_S q_S_settings q_S_sights q_S_dues q_S_talks q_S_people q_S_people_cells q_S_talks_cells q_S_dues_cells q_S_sights_cells q_S_rule q_S_stake q_S_rule_cells u_S_people_limit u_S_talks_limit u_S_dues_limit u_S_sights_limit u_S_rule_limit N_S_people_cells N_S_talks_cells N_S_dues_cells N_S_sights_cells N_S_rule_cells a_S_settings v_S_people_width v_S_people_size a_S_people_cells v_S_talks_width v_S_talks_size a_S_talks_cells v_S_dues_width v_S_dues_size a_S_dues_cells v_S_sights_width v_S_sights_size a_S_sights_cells a_S_stake v_S_rule_width v_S_rule_size a_S_rule_cells)) rfl (st1 := [.long v1]) rfl (fun H locs hP hD hS => ?_)
  refine lv_lstore_n (lv' := [(3, .long v1), (0, .ref q_S), (1, .long x1)]) hx hb dX9_mixed_8 rfl hl (by decide) rfl (fun ls hl => ?_)
  refine lv_aload_n hx hb dX9_mixed_9 rfl (lv_at hl 1 rfl) ?_
  refine zget (C := RX9) (T := TX9) (N := 7) S hK hP 0 rfl rfl 3 (Nat.le_of_ble_eq_true rfl) zf_9 zw_83 rfl dX9_mixed_10 ?_
  refine lv_aload_n hx hb dX9_mixed_13 rfl (lv_at hl 1 rfl) ?_
  refine zget (C := RX9) (T := TX9) (N := 7) S hK hP 0 rfl rfl 2 (Nat.le_of_ble_eq_true rfl) zf_9 zw_82 rfl dX9_mixed_14 ?_
  refine lv_aload_n hx hb dX9_mixed_17 rfl (lv_at hl 1 rfl) ?_
  refine zget (C := RX9) (T := TX9) (N := 7) S hK hP 0 rfl rfl 1 (Nat.le_of_ble_eq_true rfl) zf_9 zw_81 rfl dX9_mixed_18 ?_
  refine lv_aload_n hx hb dX9_mixed_21 rfl (lv_at hl 1 rfl) ?_
  refine zget (C := RX9) (T := TX9) (N := 7) S hK hP 0 rfl rfl 0 (Nat.le_of_ble_eq_true rfl) zf_9 zw_80 rfl dX9_mixed_22 ?_
  refine lv_lload_n hx hb dX9_mixed_25 rfl (lv_at hl 0 rfl) ?_
  obtain ⟨v3, hc4, hg⟩ := zbd hg
  refine zcallV (rest := [.ref q_S_talks, .ref q_S_dues, .ref q_S_sights]) S (c_X7_mixed l D cI cJ cZ cA ga q_S_people q_S_people_cells u_S_people_limit N_S_people_cells v_S_people_width v_S_people_size a_S_people_cells v1 v3 hc4) (zgV zw_1072 zw_1073 zw_1074 zw_32 zw_1075) rfl hd_X7_mixed ⟨rfl, rfl⟩ ⟨Nat.le_of_ble_eq_true rfl, Nat.le_of_ble_eq_true rfl⟩ 2 7 rfl rfl rfl hl.1 rfl (Nat.le_of_ble_eq_true rfl) dX9_mixed_26 hP hD hS hA hK hG (isC := [2, 3]) rfl (by decide +kernel) rfl ⟨Nat.zero_le _, Nat.zero_le _⟩ (pl := [none, none, some 0, some 1, none, none, none, none, none, none, none, none, none]) (nw := 13) rfl (by decide +kernel) (w2 := (ws_X9_mixed cI cJ cZ cA q_S q_S_settings q_S_sights q_S_dues q_S_talks q_S_people q_S_people_cells q_S_talks_cells q_S_dues_cells q_S_sights_cells q_S_rule q_S_stake q_S_rule_cells u_S_people_limit u_S_talks_limit u_S_dues_limit u_S_sights_limit u_S_rule_limit N_S_people_cells N_S_talks_cells N_S_dues_cells N_S_sights_cells N_S_rule_cells a_S_settings v_S_people_width v_S_people_size a_S_people_cells v_S_talks_width v_S_talks_size a_S_talks_cells v_S_dues_width v_S_dues_size a_S_dues_cells v_S_sights_width v_S_sights_size a_S_sights_cells a_S_stake v_S_rule_width v_S_rule_size a_S_rule_cells)) rfl (st1 := [.long v3, .ref q_S_talks, .ref q_S_dues, .ref q_S_sights]) rfl (fun H locs hP hD hS => ?_)
  obtain ⟨v5, hc6, hg⟩ := zbd hg
  refine zcallV (rest := [.ref q_S_dues, .ref q_S_sights]) S (c_X7_mixed l D cI cJ cZ cA ga q_S_talks q_S_talks_cells u_S_talks_limit N_S_talks_cells v_S_talks_width v_S_talks_size a_S_talks_cells v3 v5 hc6) (zgV zw_1072 zw_1073 zw_1074 zw_32 zw_1075) rfl hd_X7_mixed ⟨rfl, rfl⟩ ⟨Nat.le_of_ble_eq_true rfl, Nat.le_of_ble_eq_true rfl⟩ 4 7 rfl rfl rfl hl.1 rfl (Nat.le_of_ble_eq_true rfl) dX9_mixed_29 hP hD hS hA hK hG (isC := [4, 5]) rfl (by decide +kernel) rfl ⟨Nat.zero_le _, Nat.zero_le _⟩ (pl := [none, none, none, none, some 0, some 1, none, none, none, none, none, none, none]) (nw := 13) rfl (by decide +kernel) (w2 := (ws_X9_mixed cI cJ cZ cA q_S q_S_settings q_S_sights q_S_dues q_S_talks q_S_people q_S_people_cells q_S_talks_cells q_S_dues_cells q_S_sights_cells q_S_rule q_S_stake q_S_rule_cells u_S_people_limit u_S_talks_limit u_S_dues_limit u_S_sights_limit u_S_rule_limit N_S_people_cells N_S_talks_cells N_S_dues_cells N_S_sights_cells N_S_rule_cells a_S_settings v_S_people_width v_S_people_size a_S_people_cells v_S_talks_width v_S_talks_size a_S_talks_cells v_S_dues_width v_S_dues_size a_S_dues_cells v_S_sights_width v_S_sights_size a_S_sights_cells a_S_stake v_S_rule_width v_S_rule_size a_S_rule_cells)) rfl (st1 := [.long v5, .ref q_S_dues, .ref q_S_sights]) rfl (fun H locs hP hD hS => ?_)
  obtain ⟨v7, hc8, hg⟩ := zbd hg
  refine zcallV (rest := [.ref q_S_sights]) S (c_X7_mixed l D cI cJ cZ cA ga q_S_dues q_S_dues_cells u_S_dues_limit N_S_dues_cells v_S_dues_width v_S_dues_size a_S_dues_cells v5 v7 hc8) (zgV zw_1072 zw_1073 zw_1074 zw_32 zw_1075) rfl hd_X7_mixed ⟨rfl, rfl⟩ ⟨Nat.le_of_ble_eq_true rfl, Nat.le_of_ble_eq_true rfl⟩ 6 7 rfl rfl rfl hl.1 rfl (Nat.le_of_ble_eq_true rfl) dX9_mixed_32 hP hD hS hA hK hG (isC := [6, 7]) rfl (by decide +kernel) rfl ⟨Nat.zero_le _, Nat.zero_le _⟩ (pl := [none, none, none, none, none, none, some 0, some 1, none, none, none, none, none]) (nw := 13) rfl (by decide +kernel) (w2 := (ws_X9_mixed cI cJ cZ cA q_S q_S_settings q_S_sights q_S_dues q_S_talks q_S_people q_S_people_cells q_S_talks_cells q_S_dues_cells q_S_sights_cells q_S_rule q_S_stake q_S_rule_cells u_S_people_limit u_S_talks_limit u_S_dues_limit u_S_sights_limit u_S_rule_limit N_S_people_cells N_S_talks_cells N_S_dues_cells N_S_sights_cells N_S_rule_cells a_S_settings v_S_people_width v_S_people_size a_S_people_cells v_S_talks_width v_S_talks_size a_S_talks_cells v_S_dues_width v_S_dues_size a_S_dues_cells v_S_sights_width v_S_sights_size a_S_sights_cells a_S_stake v_S_rule_width v_S_rule_size a_S_rule_cells)) rfl (st1 := [.long v7, .ref q_S_sights]) rfl (fun H locs hP hD hS => ?_)
  obtain ⟨v9, hc10, hg⟩ := zbd hg
  refine zcallV (rest := []) S (c_X7_mixed l D cI cJ cZ cA ga q_S_sights q_S_sights_cells u_S_sights_limit N_S_sights_cells v_S_sights_width v_S_sights_size a_S_sights_cells v7 v9 hc10) (zgV zw_1072 zw_1073 zw_1074 zw_32 zw_1075) rfl hd_X7_mixed ⟨rfl, rfl⟩ ⟨Nat.le_of_ble_eq_true rfl, Nat.le_of_ble_eq_true rfl⟩ 8 7 rfl rfl rfl hl.1 rfl (Nat.le_of_ble_eq_true rfl) dX9_mixed_35 hP hD hS hA hK hG (isC := [8, 9]) rfl (by decide +kernel) rfl ⟨Nat.zero_le _, Nat.zero_le _⟩ (pl := [none, none, none, none, none, none, none, none, some 0, some 1, none, none, none]) (nw := 13) rfl (by decide +kernel) (w2 := (ws_X9_mixed cI cJ cZ cA q_S q_S_settings q_S_sights q_S_dues q_S_talks q_S_people q_S_people_cells q_S_talks_cells q_S_dues_cells q_S_sights_cells q_S_rule q_S_stake q_S_rule_cells u_S_people_limit u_S_talks_limit u_S_dues_limit u_S_sights_limit u_S_rule_limit N_S_people_cells N_S_talks_cells N_S_dues_cells N_S_sights_cells N_S_rule_cells a_S_settings v_S_people_width v_S_people_size a_S_people_cells v_S_talks_width v_S_talks_size a_S_talks_cells v_S_dues_width v_S_dues_size a_S_dues_cells v_S_sights_width v_S_sights_size a_S_sights_cells a_S_stake v_S_rule_width v_S_rule_size a_S_rule_cells)) rfl (st1 := [.long v9]) rfl (fun H locs hP hD hS => ?_)
  refine lv_lstore_n (lv' := [(3, .long v9), (0, .ref q_S), (1, .long x1)]) hx hb dX9_mixed_38 rfl hl (by decide) rfl (fun ls hl => ?_)
  refine lv_aload_n hx hb dX9_mixed_39 rfl (lv_at hl 1 rfl) ?_
  refine zget (C := RX9) (T := TX9) (N := 7) S hK hP 0 rfl rfl 4 (Nat.le_of_ble_eq_true rfl) zf_9 zw_84 rfl dX9_mixed_40 ?_
  refine lv_lload_n hx hb dX9_mixed_43 rfl (lv_at hl 0 rfl) ?_
  refine lv_aload_n hx hb dX9_mixed_44 rfl (lv_at hl 1 rfl) ?_
  refine zget (C := RX9) (T := TX9) (N := 7) S hK hP 0 rfl rfl 6 (Nat.le_of_ble_eq_true rfl) zf_9 zw_86 rfl dX9_mixed_45 ?_
  obtain ⟨v11, hc12, hg⟩ := zbd hg
  refine zcallS (rest := [.ref q_S_rule]) S (c_X9_mixedWith l D cI cJ cZ cA ga q_S_stake 5 a_S_stake v9 v11 hc12) (zgS zw_1068 zw_1069 zw_23 zw_1070) rfl hd_X9_mixedWith ⟨rfl, rfl⟩ ⟨Nat.le_of_ble_eq_true rfl, Nat.le_of_ble_eq_true rfl⟩ rfl hl.1 rfl (Nat.le_of_ble_eq_true rfl) dX9_mixed_48 hP hD hS hA hK hG (isC := [10]) rfl (by decide +kernel) rfl ⟨Nat.zero_le _, Nat.zero_le _⟩ (pl := [none, none, none, none, none, none, none, none, none, none, some 0, none, none]) (nw := 13) rfl (by decide +kernel) (w2 := (ws_X9_mixed cI cJ cZ cA q_S q_S_settings q_S_sights q_S_dues q_S_talks q_S_people q_S_people_cells q_S_talks_cells q_S_dues_cells q_S_sights_cells q_S_rule q_S_stake q_S_rule_cells u_S_people_limit u_S_talks_limit u_S_dues_limit u_S_sights_limit u_S_rule_limit N_S_people_cells N_S_talks_cells N_S_dues_cells N_S_sights_cells N_S_rule_cells a_S_settings v_S_people_width v_S_people_size a_S_people_cells v_S_talks_width v_S_talks_size a_S_talks_cells v_S_dues_width v_S_dues_size a_S_dues_cells v_S_sights_width v_S_sights_size a_S_sights_cells a_S_stake v_S_rule_width v_S_rule_size a_S_rule_cells)) rfl (st1 := [.long v11, .ref q_S_rule]) rfl (fun H locs hP hD hS => ?_)
  obtain ⟨v13, hc14, hg⟩ := zbd hg
  refine zcallV (rest := []) S (c_X7_mixed l D cI cJ cZ cA ga q_S_rule q_S_rule_cells u_S_rule_limit N_S_rule_cells v_S_rule_width v_S_rule_size a_S_rule_cells v11 v13 hc14) (zgV zw_1072 zw_1073 zw_1074 zw_32 zw_1075) rfl hd_X7_mixed ⟨rfl, rfl⟩ ⟨Nat.le_of_ble_eq_true rfl, Nat.le_of_ble_eq_true rfl⟩ 11 7 rfl rfl rfl hl.1 rfl (Nat.le_of_ble_eq_true rfl) dX9_mixed_51 hP hD hS hA hK hG (isC := [11, 12]) rfl (by decide +kernel) rfl ⟨Nat.zero_le _, Nat.zero_le _⟩ (pl := [none, none, none, none, none, none, none, none, none, none, none, some 0, some 1]) (nw := 13) rfl (by decide +kernel) (w2 := (ws_X9_mixed cI cJ cZ cA q_S q_S_settings q_S_sights q_S_dues q_S_talks q_S_people q_S_people_cells q_S_talks_cells q_S_dues_cells q_S_sights_cells q_S_rule q_S_stake q_S_rule_cells u_S_people_limit u_S_talks_limit u_S_dues_limit u_S_sights_limit u_S_rule_limit N_S_people_cells N_S_talks_cells N_S_dues_cells N_S_sights_cells N_S_rule_cells a_S_settings v_S_people_width v_S_people_size a_S_people_cells v_S_talks_width v_S_talks_size a_S_talks_cells v_S_dues_width v_S_dues_size a_S_dues_cells v_S_sights_width v_S_sights_size a_S_sights_cells a_S_stake v_S_rule_width v_S_rule_size a_S_rule_cells)) rfl (st1 := [.long v13]) rfl (fun H locs hP hD hS => ?_)
  exact hret v13 hg _ _ _ _ hP hS dX9_mixed_54

/-! SpokenClock.digest()J -/
abbrev ws_X10_digest (cI cJ cZ cA : ClassId) (q_X q_X_fraction q_X_now q_X_now_settings q_X_now_people q_X_now_people_cells q_X_now_talks q_X_now_talks_cells q_X_now_dues q_X_now_dues_cells q_X_now_sights q_X_now_sights_cells q_X_now_stake q_X_now_rule q_X_now_rule_cells q_X_fraction_above q_X_fraction_above_limbs q_X_fraction_below q_X_fraction_below_limbs q_X_text : Nat) (u_X_draft : Value) (u_X_reader : Value) (u_X_rule : Value) (u_X_day : Value) (u_X_plan : Value) (u_X_guess : Value) (u_X_quarrel : Value) (u_X_firstImage : Value) (u_X_secondImage : Value) (u_X_kept : Value) (u_X_refusals : Value) (u_X_now_people_limit : Value) (u_X_now_talks_limit : Value) (u_X_now_dues_limit : Value) (u_X_now_sights_limit : Value) (u_X_now_rule_limit : Value) (u_X_fraction_term : Value) (u_X_text_width : Value) (u_X_text_limit : Value) (u_X_text_cells : Value) (N_X_now_people_cells : Nat) (N_X_now_talks_cells : Nat) (N_X_now_dues_cells : Nat) (N_X_now_sights_cells : Nat) (N_X_now_rule_cells : Nat) (a_X_now_settings : Nat → Int32) (v_X_now_people_width : Int32) (v_X_now_people_size : Int32) (a_X_now_people_cells : Nat → Int32) (v_X_now_talks_width : Int32) (v_X_now_talks_size : Int32) (a_X_now_talks_cells : Nat → Int32) (v_X_now_dues_width : Int32) (v_X_now_dues_size : Int32) (a_X_now_dues_cells : Nat → Int32) (v_X_now_sights_width : Int32) (v_X_now_sights_size : Int32) (a_X_now_sights_cells : Nat → Int32) (a_X_now_stake : Nat → Int32) (v_X_now_rule_width : Int32) (v_X_now_rule_size : Int32) (a_X_now_rule_cells : Nat → Int32) (a_X_fraction_above_limbs : Nat → Int32) (a_X_fraction_below_limbs : Nat → Int32) (v_X_text_size : Int32) : va_W := [(q_X, .inr (10, [.ref q_X_now, u_X_draft, .ref q_X_text, u_X_reader, u_X_rule, u_X_day, u_X_plan, u_X_guess, u_X_quarrel, .ref q_X_fraction, u_X_firstImage, u_X_secondImage, u_X_kept, u_X_refusals])), (q_X_now, .inr (9, [.ref q_X_now_people, .ref q_X_now_talks, .ref q_X_now_dues, .ref q_X_now_sights, .ref q_X_now_rule, .ref q_X_now_settings, .ref q_X_now_stake])), (q_X_now_settings, .inl (cI, 3, .inl a_X_now_settings)), (q_X_now_people, .inr (7, [.int v_X_now_people_width, u_X_now_people_limit, .ref q_X_now_people_cells, .int v_X_now_people_size])), (q_X_now_people_cells, .inl (cI, N_X_now_people_cells, .inl a_X_now_people_cells)), (q_X_now_talks, .inr (7, [.int v_X_now_talks_width, u_X_now_talks_limit, .ref q_X_now_talks_cells, .int v_X_now_talks_size])), (q_X_now_talks_cells, .inl (cI, N_X_now_talks_cells, .inl a_X_now_talks_cells)), (q_X_now_dues, .inr (7, [.int v_X_now_dues_width, u_X_now_dues_limit, .ref q_X_now_dues_cells, .int v_X_now_dues_size])), (q_X_now_dues_cells, .inl (cI, N_X_now_dues_cells, .inl a_X_now_dues_cells)), (q_X_now_sights, .inr (7, [.int v_X_now_sights_width, u_X_now_sights_limit, .ref q_X_now_sights_cells, .int v_X_now_sights_size])), (q_X_now_sights_cells, .inl (cI, N_X_now_sights_cells, .inl a_X_now_sights_cells)), (q_X_now_stake, .inl (cI, 5, .inl a_X_now_stake)), (q_X_now_rule, .inr (7, [.int v_X_now_rule_width, u_X_now_rule_limit, .ref q_X_now_rule_cells, .int v_X_now_rule_size])), (q_X_now_rule_cells, .inl (cI, N_X_now_rule_cells, .inl a_X_now_rule_cells)), (q_X_fraction, .inr (2, [.ref q_X_fraction_above, .ref q_X_fraction_below, u_X_fraction_term])), (q_X_fraction_above, .inr (0, [.ref q_X_fraction_above_limbs])), (q_X_fraction_above_limbs, .inl (cI, 8, .inl a_X_fraction_above_limbs)), (q_X_fraction_below, .inr (0, [.ref q_X_fraction_below_limbs])), (q_X_fraction_below_limbs, .inl (cI, 8, .inl a_X_fraction_below_limbs)), (q_X_text, .inr (7, [u_X_text_width, u_X_text_limit, u_X_text_cells, .int v_X_text_size]))]
abbrev rm_X10_digest : Room := { frames := 3, cells := 0, slots := 0, locals := 71 }
def g_X10_digest_6b (N_X_now_people_cells : Nat) (N_X_now_talks_cells : Nat) (N_X_now_dues_cells : Nat) (N_X_now_sights_cells : Nat) (N_X_now_rule_cells : Nat) (a_X_now_settings : Nat → Int32) (v_X_now_people_width : Int32) (v_X_now_people_size : Int32) (a_X_now_people_cells : Nat → Int32) (v_X_now_talks_width : Int32) (v_X_now_talks_size : Int32) (a_X_now_talks_cells : Nat → Int32) (v_X_now_dues_width : Int32) (v_X_now_dues_size : Int32) (a_X_now_dues_cells : Nat → Int32) (v_X_now_sights_width : Int32) (v_X_now_sights_size : Int32) (a_X_now_sights_cells : Nat → Int32) (a_X_now_stake : Nat → Int32) (v_X_now_rule_width : Int32) (v_X_now_rule_size : Int32) (a_X_now_rule_cells : Nat → Int32) (a_X_fraction_above_limbs : Nat → Int32) (a_X_fraction_below_limbs : Nat → Int32) (v_X_text_size : Int32) (k6 : Int64 → Int32 → Option (Int64)) (x1 : Int64) (x3 : Int32) : Option (Int64) :=
  if 5 < x3 then (
    (g_X9_mixed N_X_now_people_cells N_X_now_talks_cells N_X_now_dues_cells N_X_now_sights_cells N_X_now_rule_cells a_X_now_settings v_X_now_people_width v_X_now_people_size a_X_now_people_cells v_X_now_talks_width v_X_now_talks_size a_X_now_talks_cells v_X_now_dues_width v_X_now_dues_size a_X_now_dues_cells v_X_now_sights_width v_X_now_sights_size a_X_now_sights_cells a_X_now_stake v_X_now_rule_width v_X_now_rule_size a_X_now_rule_cells x1).bind fun v1 =>
    (g_X2_mixed a_X_fraction_above_limbs a_X_fraction_below_limbs v1).bind fun v3 =>
    some (v3)
  ) else (
    (g_X10_sizeOf v_X_now_people_size v_X_now_talks_size v_X_now_dues_size v_X_now_sights_size v_X_text_size v_X_now_rule_size x3).bind fun v5 =>
    k6 (((31 : Int64) * x1) + v5.toInt64) (x3 + 1)
  )
def g_X10_digest_6 (N_X_now_people_cells : Nat) (N_X_now_talks_cells : Nat) (N_X_now_dues_cells : Nat) (N_X_now_sights_cells : Nat) (N_X_now_rule_cells : Nat) (a_X_now_settings : Nat → Int32) (v_X_now_people_width : Int32) (v_X_now_people_size : Int32) (a_X_now_people_cells : Nat → Int32) (v_X_now_talks_width : Int32) (v_X_now_talks_size : Int32) (a_X_now_talks_cells : Nat → Int32) (v_X_now_dues_width : Int32) (v_X_now_dues_size : Int32) (a_X_now_dues_cells : Nat → Int32) (v_X_now_sights_width : Int32) (v_X_now_sights_size : Int32) (a_X_now_sights_cells : Nat → Int32) (a_X_now_stake : Nat → Int32) (v_X_now_rule_width : Int32) (v_X_now_rule_size : Int32) (a_X_now_rule_cells : Nat → Int32) (a_X_fraction_above_limbs : Nat → Int32) (a_X_fraction_below_limbs : Nat → Int32) (v_X_text_size : Int32) : Nat → Int64 → Int32 → Option (Int64)
  | 0, _, _ => none
  | n + 1, x1, x3 => g_X10_digest_6b N_X_now_people_cells N_X_now_talks_cells N_X_now_dues_cells N_X_now_sights_cells N_X_now_rule_cells a_X_now_settings v_X_now_people_width v_X_now_people_size a_X_now_people_cells v_X_now_talks_width v_X_now_talks_size a_X_now_talks_cells v_X_now_dues_width v_X_now_dues_size a_X_now_dues_cells v_X_now_sights_width v_X_now_sights_size a_X_now_sights_cells a_X_now_stake v_X_now_rule_width v_X_now_rule_size a_X_now_rule_cells a_X_fraction_above_limbs a_X_fraction_below_limbs v_X_text_size (g_X10_digest_6 N_X_now_people_cells N_X_now_talks_cells N_X_now_dues_cells N_X_now_sights_cells N_X_now_rule_cells a_X_now_settings v_X_now_people_width v_X_now_people_size a_X_now_people_cells v_X_now_talks_width v_X_now_talks_size a_X_now_talks_cells v_X_now_dues_width v_X_now_dues_size a_X_now_dues_cells v_X_now_sights_width v_X_now_sights_size a_X_now_sights_cells a_X_now_stake v_X_now_rule_width v_X_now_rule_size a_X_now_rule_cells a_X_fraction_above_limbs a_X_fraction_below_limbs v_X_text_size n) x1 x3
def g_X10_digest (N_X_now_people_cells : Nat) (N_X_now_talks_cells : Nat) (N_X_now_dues_cells : Nat) (N_X_now_sights_cells : Nat) (N_X_now_rule_cells : Nat) (a_X_now_settings : Nat → Int32) (v_X_now_people_width : Int32) (v_X_now_people_size : Int32) (a_X_now_people_cells : Nat → Int32) (v_X_now_talks_width : Int32) (v_X_now_talks_size : Int32) (a_X_now_talks_cells : Nat → Int32) (v_X_now_dues_width : Int32) (v_X_now_dues_size : Int32) (a_X_now_dues_cells : Nat → Int32) (v_X_now_sights_width : Int32) (v_X_now_sights_size : Int32) (a_X_now_sights_cells : Nat → Int32) (a_X_now_stake : Nat → Int32) (v_X_now_rule_width : Int32) (v_X_now_rule_size : Int32) (a_X_now_rule_cells : Nat → Int32) (a_X_fraction_above_limbs : Nat → Int32) (a_X_fraction_below_limbs : Nat → Int32) (v_X_text_size : Int32) : Option (Int64) :=
  g_X10_digest_6 N_X_now_people_cells N_X_now_talks_cells N_X_now_dues_cells N_X_now_sights_cells N_X_now_rule_cells a_X_now_settings v_X_now_people_width v_X_now_people_size a_X_now_people_cells v_X_now_talks_width v_X_now_talks_size a_X_now_talks_cells v_X_now_dues_width v_X_now_dues_size a_X_now_dues_cells v_X_now_sights_width v_X_now_sights_size a_X_now_sights_cells a_X_now_stake v_X_now_rule_width v_X_now_rule_size a_X_now_rule_cells a_X_fraction_above_limbs a_X_fraction_below_limbs v_X_text_size zF (701 : Int64) 0
theorem hd_X10_digest : yX10_digest.cls = RX10 ∧ yX10_digest.cls ≠ "java/lang/invoke/MethodHandle" ∧ yX10_digest.cls ≠ "java/lang/invoke/VarHandle" ∧ (parseMethodDescriptor yX10_digest.desc).map (fun d => d.parameters.length) = some 0 := by decide +kernel
set_option maxHeartbeats 4000000 in
set_option maxRecDepth 100000 in
theorem c_X10_digest (l : Launch) (D : va_G) (cI cJ cZ cA : ClassId) (ga : Nat → Nat) (q_X q_X_fraction q_X_now q_X_now_settings q_X_now_people q_X_now_people_cells q_X_now_talks q_X_now_talks_cells q_X_now_dues q_X_now_dues_cells q_X_now_sights q_X_now_sights_cells q_X_now_stake q_X_now_rule q_X_now_rule_cells q_X_fraction_above q_X_fraction_above_limbs q_X_fraction_below q_X_fraction_below_limbs q_X_text : Nat) (u_X_draft : Value) (u_X_reader : Value) (u_X_rule : Value) (u_X_day : Value) (u_X_plan : Value) (u_X_guess : Value) (u_X_quarrel : Value) (u_X_firstImage : Value) (u_X_secondImage : Value) (u_X_kept : Value) (u_X_refusals : Value) (u_X_now_people_limit : Value) (u_X_now_talks_limit : Value) (u_X_now_dues_limit : Value) (u_X_now_sights_limit : Value) (u_X_now_rule_limit : Value) (u_X_fraction_term : Value) (u_X_text_width : Value) (u_X_text_limit : Value) (u_X_text_cells : Value) (N_X_now_people_cells : Nat) (N_X_now_talks_cells : Nat) (N_X_now_dues_cells : Nat) (N_X_now_sights_cells : Nat) (N_X_now_rule_cells : Nat) (a_X_now_settings : Nat → Int32) (v_X_now_people_width : Int32) (v_X_now_people_size : Int32) (a_X_now_people_cells : Nat → Int32) (v_X_now_talks_width : Int32) (v_X_now_talks_size : Int32) (a_X_now_talks_cells : Nat → Int32) (v_X_now_dues_width : Int32) (v_X_now_dues_size : Int32) (a_X_now_dues_cells : Nat → Int32) (v_X_now_sights_width : Int32) (v_X_now_sights_size : Int32) (a_X_now_sights_cells : Nat → Int32) (a_X_now_stake : Nat → Int32) (v_X_now_rule_width : Int32) (v_X_now_rule_size : Int32) (a_X_now_rule_cells : Nat → Int32) (a_X_fraction_above_limbs : Nat → Int32) (a_X_fraction_below_limbs : Nat → Int32) (v_X_text_size : Int32) (o : Int64) (hg : g_X10_digest N_X_now_people_cells N_X_now_talks_cells N_X_now_dues_cells N_X_now_sights_cells N_X_now_rule_cells a_X_now_settings v_X_now_people_width v_X_now_people_size a_X_now_people_cells v_X_now_talks_width v_X_now_talks_size a_X_now_talks_cells v_X_now_dues_width v_X_now_dues_size a_X_now_dues_cells v_X_now_sights_width v_X_now_sights_size a_X_now_sights_cells a_X_now_stake v_X_now_rule_width v_X_now_rule_size a_X_now_rule_cells a_X_fraction_above_limbs a_X_fraction_below_limbs v_X_text_size = some o) : zM l yX10_digest (Cond.code yX10_digest cX10_digest 4 (some .long) :: wsL_law) rm_X10_digest D (zTy cI cJ cZ cA) ga [.ref q_X] (ws_X10_digest cI cJ cZ cA q_X q_X_fraction q_X_now q_X_now_settings q_X_now_people q_X_now_people_cells q_X_now_talks q_X_now_talks_cells q_X_now_dues q_X_now_dues_cells q_X_now_sights q_X_now_sights_cells q_X_now_stake q_X_now_rule q_X_now_rule_cells q_X_fraction_above q_X_fraction_above_limbs q_X_fraction_below q_X_fraction_below_limbs q_X_text u_X_draft u_X_reader u_X_rule u_X_day u_X_plan u_X_guess u_X_quarrel u_X_firstImage u_X_secondImage u_X_kept u_X_refusals u_X_now_people_limit u_X_now_talks_limit u_X_now_dues_limit u_X_now_sights_limit u_X_now_rule_limit u_X_fraction_term u_X_text_width u_X_text_limit u_X_text_cells N_X_now_people_cells N_X_now_talks_cells N_X_now_dues_cells N_X_now_sights_cells N_X_now_rule_cells a_X_now_settings v_X_now_people_width v_X_now_people_size a_X_now_people_cells v_X_now_talks_width v_X_now_talks_size a_X_now_talks_cells v_X_now_dues_width v_X_now_dues_size a_X_now_dues_cells v_X_now_sights_width v_X_now_sights_size a_X_now_sights_cells a_X_now_stake v_X_now_rule_width v_X_now_rule_size a_X_now_rule_cells a_X_fraction_above_limbs a_X_fraction_below_limbs v_X_text_size) (ws_X10_digest cI cJ cZ cA q_X q_X_fraction q_X_now q_X_now_settings q_X_now_people q_X_now_people_cells q_X_now_talks q_X_now_talks_cells q_X_now_dues q_X_now_dues_cells q_X_now_sights q_X_now_sights_cells q_X_now_stake q_X_now_rule q_X_now_rule_cells q_X_fraction_above q_X_fraction_above_limbs q_X_fraction_below q_X_fraction_below_limbs q_X_text u_X_draft u_X_reader u_X_rule u_X_day u_X_plan u_X_guess u_X_quarrel u_X_firstImage u_X_secondImage u_X_kept u_X_refusals u_X_now_people_limit u_X_now_talks_limit u_X_now_dues_limit u_X_now_sights_limit u_X_now_rule_limit u_X_fraction_term u_X_text_width u_X_text_limit u_X_text_cells N_X_now_people_cells N_X_now_talks_cells N_X_now_dues_cells N_X_now_sights_cells N_X_now_rule_cells a_X_now_settings v_X_now_people_width v_X_now_people_size a_X_now_people_cells v_X_now_talks_width v_X_now_talks_size a_X_now_talks_cells v_X_now_dues_width v_X_now_dues_size a_X_now_dues_cells v_X_now_sights_width v_X_now_sights_size a_X_now_sights_cells a_X_now_stake v_X_now_rule_width v_X_now_rule_size a_X_now_rule_cells a_X_fraction_above_limbs a_X_fraction_below_limbs v_X_text_size) (some (.long o)) := by
  refine zenterL (own := RX10) (by decide) rfl rfl (Nat.le_of_ble_eq_true rfl) ?_
  intro p e s m args below meth c A ls Q S hA hK hG hl hP hD hS hret0
  have hx := S.1
  have hb := S.2.1
  have ht : ∀ w, w ∈ wsL_law → w.before args s = true := fun w h => S.2.2.2.2 w (List.mem_cons_of_mem _ h)
  have hret : ∀ (r9 : Int64), (some (r9) : Option (Int64)) = some o → ∀ (H : Heap) (locs : List Loc) (pc : Nat) (ls : Array Slot), va_P D vwCl (ws_X10_digest cI cJ cZ cA q_X q_X_fraction q_X_now q_X_now_settings q_X_now_people q_X_now_people_cells q_X_now_talks q_X_now_talks_cells q_X_now_dues q_X_now_dues_cells q_X_now_sights q_X_now_sights_cells q_X_now_stake q_X_now_rule q_X_now_rule_cells q_X_fraction_above q_X_fraction_above_limbs q_X_fraction_below q_X_fraction_below_limbs q_X_text u_X_draft u_X_reader u_X_rule u_X_day u_X_plan u_X_guess u_X_quarrel u_X_firstImage u_X_secondImage u_X_kept u_X_refusals u_X_now_people_limit u_X_now_talks_limit u_X_now_dues_limit u_X_now_sights_limit u_X_now_rule_limit u_X_fraction_term u_X_text_width u_X_text_limit u_X_text_cells N_X_now_people_cells N_X_now_talks_cells N_X_now_dues_cells N_X_now_sights_cells N_X_now_rule_cells a_X_now_settings v_X_now_people_width v_X_now_people_size a_X_now_people_cells v_X_now_talks_width v_X_now_talks_size a_X_now_talks_cells v_X_now_dues_width v_X_now_dues_size a_X_now_dues_cells v_X_now_sights_width v_X_now_sights_size a_X_now_sights_cells a_X_now_stake v_X_now_rule_width v_X_now_rule_size a_X_now_rule_cells a_X_fraction_above_limbs a_X_fraction_below_limbs v_X_text_size) H → va_S A s.heap H locs → decode cX10_digest pc = .ok (.lreturn, 1) → W p l e rm_X10_digest s m args below meth c H locs 0 0 Q (F0 m pc ls [.long r9]) := by
    intro r9 he; cases he; exact hret0
  have hl : lv_has ls 4 [(0, .ref q_X)] := hl
  have B6 : ∀  (n : Nat) (x1 : Int64) (x3 : Int32) (H : Heap) (locs : List Loc) (ls : Array Slot) (hl : lv_has ls 4 [(0, .ref q_X), (1, .long x1), (3, .int x3)]) (hP : va_P D vwCl (ws_X10_digest cI cJ cZ cA q_X q_X_fraction q_X_now q_X_now_settings q_X_now_people q_X_now_people_cells q_X_now_talks q_X_now_talks_cells q_X_now_dues q_X_now_dues_cells q_X_now_sights q_X_now_sights_cells q_X_now_stake q_X_now_rule q_X_now_rule_cells q_X_fraction_above q_X_fraction_above_limbs q_X_fraction_below q_X_fraction_below_limbs q_X_text u_X_draft u_X_reader u_X_rule u_X_day u_X_plan u_X_guess u_X_quarrel u_X_firstImage u_X_secondImage u_X_kept u_X_refusals u_X_now_people_limit u_X_now_talks_limit u_X_now_dues_limit u_X_now_sights_limit u_X_now_rule_limit u_X_fraction_term u_X_text_width u_X_text_limit u_X_text_cells N_X_now_people_cells N_X_now_talks_cells N_X_now_dues_cells N_X_now_sights_cells N_X_now_rule_cells a_X_now_settings v_X_now_people_width v_X_now_people_size a_X_now_people_cells v_X_now_talks_width v_X_now_talks_size a_X_now_talks_cells v_X_now_dues_width v_X_now_dues_size a_X_now_dues_cells v_X_now_sights_width v_X_now_sights_size a_X_now_sights_cells a_X_now_stake v_X_now_rule_width v_X_now_rule_size a_X_now_rule_cells a_X_fraction_above_limbs a_X_fraction_below_limbs v_X_text_size) H) (hD : va_D A (ws_X10_digest cI cJ cZ cA q_X q_X_fraction q_X_now q_X_now_settings q_X_now_people q_X_now_people_cells q_X_now_talks q_X_now_talks_cells q_X_now_dues q_X_now_dues_cells q_X_now_sights q_X_now_sights_cells q_X_now_stake q_X_now_rule q_X_now_rule_cells q_X_fraction_above q_X_fraction_above_limbs q_X_fraction_below q_X_fraction_below_limbs q_X_text u_X_draft u_X_reader u_X_rule u_X_day u_X_plan u_X_guess u_X_quarrel u_X_firstImage u_X_secondImage u_X_kept u_X_refusals u_X_now_people_limit u_X_now_talks_limit u_X_now_dues_limit u_X_now_sights_limit u_X_now_rule_limit u_X_fraction_term u_X_text_width u_X_text_limit u_X_text_cells N_X_now_people_cells N_X_now_talks_cells N_X_now_dues_cells N_X_now_sights_cells N_X_now_rule_cells a_X_now_settings v_X_now_people_width v_X_now_people_size a_X_now_people_cells v_X_now_talks_width v_X_now_talks_size a_X_now_talks_cells v_X_now_dues_width v_X_now_dues_size a_X_now_dues_cells v_X_now_sights_width v_X_now_sights_size a_X_now_sights_cells a_X_now_stake v_X_now_rule_width v_X_now_rule_size a_X_now_rule_cells a_X_fraction_above_limbs a_X_fraction_below_limbs v_X_text_size)) (hS : va_S A s.heap H locs), g_X10_digest_6 N_X_now_people_cells N_X_now_talks_cells N_X_now_dues_cells N_X_now_sights_cells N_X_now_rule_cells a_X_now_settings v_X_now_people_width v_X_now_people_size a_X_now_people_cells v_X_now_talks_width v_X_now_talks_size a_X_now_talks_cells v_X_now_dues_width v_X_now_dues_size a_X_now_dues_cells v_X_now_sights_width v_X_now_sights_size a_X_now_sights_cells a_X_now_stake v_X_now_rule_width v_X_now_rule_size a_X_now_rule_cells a_X_fraction_above_limbs a_X_fraction_below_limbs v_X_text_size n x1 x3 = some o → W p l e rm_X10_digest s m args below meth c H locs 0 0 Q (F0 m 6 ls []) := by
    intro  n
    induction n with
    | zero => intro x1 x3 H locs ls hl hP hD hS hg; exact nomatch (show (none : Option (Int64)) = some o from hg)
    | succ n ih =>
      intro x1 x3 H locs ls hl hP hD hS hg
      have hg : g_X10_digest_6b N_X_now_people_cells N_X_now_talks_cells N_X_now_dues_cells N_X_now_sights_cells N_X_now_rule_cells a_X_now_settings v_X_now_people_width v_X_now_people_size a_X_now_people_cells v_X_now_talks_width v_X_now_talks_size a_X_now_talks_cells v_X_now_dues_width v_X_now_dues_size a_X_now_dues_cells v_X_now_sights_width v_X_now_sights_size a_X_now_sights_cells a_X_now_stake v_X_now_rule_width v_X_now_rule_size a_X_now_rule_cells a_X_fraction_above_limbs a_X_fraction_below_limbs v_X_text_size (g_X10_digest_6 N_X_now_people_cells N_X_now_talks_cells N_X_now_dues_cells N_X_now_sights_cells N_X_now_rule_cells a_X_now_settings v_X_now_people_width v_X_now_people_size a_X_now_people_cells v_X_now_talks_width v_X_now_talks_size a_X_now_talks_cells v_X_now_dues_width v_X_now_dues_size a_X_now_dues_cells v_X_now_sights_width v_X_now_sights_size a_X_now_sights_cells a_X_now_stake v_X_now_rule_width v_X_now_rule_size a_X_now_rule_cells a_X_fraction_above_limbs a_X_fraction_below_limbs v_X_text_size n) x1 x3 = some o := hg
      refine lv_iload_n hx hb dX10_digest_6 rfl (lv_at hl 2 rfl) ?_
      refine lv_iconst (v := 5) hx hb dX10_digest_7 (by decide) ?_
      refine lv_icmp_gt (tgt := 30) hx hb dX10_digest_8 (by decide) (fun h8 => ?_) (fun h8 => ?_)
      · have hg := zp hg h8
        refine lv_aload_n hx hb dX10_digest_30 rfl (lv_at hl 0 rfl) ?_
        refine zget (C := RX10) (T := TX10) (N := 14) S hK hP 0 rfl rfl 9 (Nat.le_of_ble_eq_true rfl) zf_10 zw_20 rfl dX10_digest_31 ?_
        refine lv_aload_n hx hb dX10_digest_34 rfl (lv_at hl 0 rfl) ?_
        refine zget (C := RX10) (T := TX10) (N := 14) S hK hP 0 rfl rfl 0 (Nat.le_of_ble_eq_true rfl) zf_10 zw_51 rfl dX10_digest_35 ?_
        refine lv_lload_n hx hb dX10_digest_38 rfl (lv_at hl 1 rfl) ?_
        obtain ⟨v1, hc2, hg⟩ := zbd hg
        refine zcallV (rest := [.ref q_X_fraction]) S (c_X9_mixed l D cI cJ cZ cA ga q_X_now q_X_now_settings q_X_now_sights q_X_now_dues q_X_now_talks q_X_now_people q_X_now_people_cells q_X_now_talks_cells q_X_now_dues_cells q_X_now_sights_cells q_X_now_rule q_X_now_stake q_X_now_rule_cells u_X_now_people_limit u_X_now_talks_limit u_X_now_dues_limit u_X_now_sights_limit u_X_now_rule_limit N_X_now_people_cells N_X_now_talks_cells N_X_now_dues_cells N_X_now_sights_cells N_X_now_rule_cells a_X_now_settings v_X_now_people_width v_X_now_people_size a_X_now_people_cells v_X_now_talks_width v_X_now_talks_size a_X_now_talks_cells v_X_now_dues_width v_X_now_dues_size a_X_now_dues_cells v_X_now_sights_width v_X_now_sights_size a_X_now_sights_cells a_X_now_stake v_X_now_rule_width v_X_now_rule_size a_X_now_rule_cells x1 v1 hc2) (zgV zw_1064 zw_1065 zw_1066 zw_23 zw_1067) rfl hd_X9_mixed ⟨rfl, rfl⟩ ⟨Nat.le_of_ble_eq_true rfl, Nat.le_of_ble_eq_true rfl⟩ 1 9 rfl rfl rfl hl.1 rfl (Nat.le_of_ble_eq_true rfl) dX10_digest_39 hP hD hS hA hK hG (isC := [1, 2, 3, 4, 5, 6, 7, 8, 9, 10, 11, 12, 13]) rfl (by decide +kernel) rfl ⟨Nat.zero_le _, Nat.zero_le _⟩ (pl := [none, some 0, some 1, some 2, some 3, some 4, some 5, some 6, some 7, some 8, some 9, some 10, some 11, some 12, none, none, none, none, none, none]) (nw := 20) rfl (by decide +kernel) (w2 := (ws_X10_digest cI cJ cZ cA q_X q_X_fraction q_X_now q_X_now_settings q_X_now_people q_X_now_people_cells q_X_now_talks q_X_now_talks_cells q_X_now_dues q_X_now_dues_cells q_X_now_sights q_X_now_sights_cells q_X_now_stake q_X_now_rule q_X_now_rule_cells q_X_fraction_above q_X_fraction_above_limbs q_X_fraction_below q_X_fraction_below_limbs q_X_text u_X_draft u_X_reader u_X_rule u_X_day u_X_plan u_X_guess u_X_quarrel u_X_firstImage u_X_secondImage u_X_kept u_X_refusals u_X_now_people_limit u_X_now_talks_limit u_X_now_dues_limit u_X_now_sights_limit u_X_now_rule_limit u_X_fraction_term u_X_text_width u_X_text_limit u_X_text_cells N_X_now_people_cells N_X_now_talks_cells N_X_now_dues_cells N_X_now_sights_cells N_X_now_rule_cells a_X_now_settings v_X_now_people_width v_X_now_people_size a_X_now_people_cells v_X_now_talks_width v_X_now_talks_size a_X_now_talks_cells v_X_now_dues_width v_X_now_dues_size a_X_now_dues_cells v_X_now_sights_width v_X_now_sights_size a_X_now_sights_cells a_X_now_stake v_X_now_rule_width v_X_now_rule_size a_X_now_rule_cells a_X_fraction_above_limbs a_X_fraction_below_limbs v_X_text_size)) rfl (st1 := [.long v1, .ref q_X_fraction]) rfl (fun H locs hP hD hS => ?_)
        obtain ⟨v3, hc4, hg⟩ := zbd hg
        refine zcallV (rest := []) S (c_X2_mixed l D cI cJ cZ cA ga q_X_fraction q_X_fraction_below q_X_fraction_above q_X_fraction_above_limbs q_X_fraction_below_limbs u_X_fraction_term a_X_fraction_above_limbs a_X_fraction_below_limbs v1 v3 hc4) (zgV zw_1077 zw_1078 zw_1079 zw_19 zw_1080) rfl hd_X2_mixed ⟨rfl, rfl⟩ ⟨Nat.le_of_ble_eq_true rfl, Nat.le_of_ble_eq_true rfl⟩ 14 2 rfl rfl rfl hl.1 rfl (Nat.le_of_ble_eq_true rfl) dX10_digest_42 hP hD hS hA hK hG (isC := [14, 15, 16, 17, 18]) rfl (by decide +kernel) rfl ⟨Nat.zero_le _, Nat.zero_le _⟩ (pl := [none, none, none, none, none, none, none, none, none, none, none, none, none, none, some 0, some 1, some 2, some 3, some 4, none]) (nw := 20) rfl (by decide +kernel) (w2 := (ws_X10_digest cI cJ cZ cA q_X q_X_fraction q_X_now q_X_now_settings q_X_now_people q_X_now_people_cells q_X_now_talks q_X_now_talks_cells q_X_now_dues q_X_now_dues_cells q_X_now_sights q_X_now_sights_cells q_X_now_stake q_X_now_rule q_X_now_rule_cells q_X_fraction_above q_X_fraction_above_limbs q_X_fraction_below q_X_fraction_below_limbs q_X_text u_X_draft u_X_reader u_X_rule u_X_day u_X_plan u_X_guess u_X_quarrel u_X_firstImage u_X_secondImage u_X_kept u_X_refusals u_X_now_people_limit u_X_now_talks_limit u_X_now_dues_limit u_X_now_sights_limit u_X_now_rule_limit u_X_fraction_term u_X_text_width u_X_text_limit u_X_text_cells N_X_now_people_cells N_X_now_talks_cells N_X_now_dues_cells N_X_now_sights_cells N_X_now_rule_cells a_X_now_settings v_X_now_people_width v_X_now_people_size a_X_now_people_cells v_X_now_talks_width v_X_now_talks_size a_X_now_talks_cells v_X_now_dues_width v_X_now_dues_size a_X_now_dues_cells v_X_now_sights_width v_X_now_sights_size a_X_now_sights_cells a_X_now_stake v_X_now_rule_width v_X_now_rule_size a_X_now_rule_cells a_X_fraction_above_limbs a_X_fraction_below_limbs v_X_text_size)) rfl (st1 := [.long v3]) rfl (fun H locs hP hD hS => ?_)
        exact hret v3 hg _ _ _ _ hP hS dX10_digest_45
      · have hg := zn hg h8
        refine lv_ldc2 (v := 31) hx hb S.2.2.2.1 (ht _ zw_1063) dX10_digest_11 ?_
        refine lv_lload_n hx hb dX10_digest_14 rfl (lv_at hl 1 rfl) ?_
        refine lv_lmul hx hb dX10_digest_15 ?_
        refine lv_aload_n hx hb dX10_digest_16 rfl (lv_at hl 0 rfl) ?_
        refine lv_iload_n hx hb dX10_digest_17 rfl (lv_at hl 2 rfl) ?_
        obtain ⟨v5, hc6, hg⟩ := zbd hg
        refine zcallV (rest := [.long ((31 : Int64) * x1)]) S (c_X10_sizeOf l D cI cJ cZ cA ga q_X q_X_now q_X_now_people q_X_now_talks q_X_now_dues q_X_now_sights q_X_text q_X_now_rule u_X_draft u_X_reader u_X_rule u_X_day u_X_plan u_X_guess u_X_quarrel (.ref q_X_fraction) u_X_firstImage u_X_secondImage u_X_kept u_X_refusals (.ref q_X_now_settings) (.ref q_X_now_stake) (.int v_X_now_people_width) u_X_now_people_limit (.ref q_X_now_people_cells) (.int v_X_now_talks_width) u_X_now_talks_limit (.ref q_X_now_talks_cells) (.int v_X_now_dues_width) u_X_now_dues_limit (.ref q_X_now_dues_cells) (.int v_X_now_sights_width) u_X_now_sights_limit (.ref q_X_now_sights_cells) u_X_text_width u_X_text_limit u_X_text_cells (.int v_X_now_rule_width) u_X_now_rule_limit (.ref q_X_now_rule_cells) v_X_now_people_size v_X_now_talks_size v_X_now_dues_size v_X_now_sights_size v_X_text_size v_X_now_rule_size x3 v5 hc6) (zgV zw_1044 zw_1045 zw_1046 zw_2 zw_1047) rfl hd_X10_sizeOf ⟨rfl, rfl⟩ ⟨Nat.le_of_ble_eq_true rfl, Nat.le_of_ble_eq_true rfl⟩ 0 10 rfl rfl rfl hl.1 rfl (Nat.le_of_ble_eq_true rfl) dX10_digest_18 hP hD hS hA hK hG (isC := [0, 1, 3, 5, 7, 9, 19, 12]) rfl (by decide +kernel) rfl ⟨Nat.zero_le _, Nat.zero_le _⟩ (pl := [some 0, some 1, none, some 2, none, some 3, none, some 4, none, some 5, none, none, some 7, none, none, none, none, none, none, some 6]) (nw := 20) rfl (by decide +kernel) (w2 := (ws_X10_digest cI cJ cZ cA q_X q_X_fraction q_X_now q_X_now_settings q_X_now_people q_X_now_people_cells q_X_now_talks q_X_now_talks_cells q_X_now_dues q_X_now_dues_cells q_X_now_sights q_X_now_sights_cells q_X_now_stake q_X_now_rule q_X_now_rule_cells q_X_fraction_above q_X_fraction_above_limbs q_X_fraction_below q_X_fraction_below_limbs q_X_text u_X_draft u_X_reader u_X_rule u_X_day u_X_plan u_X_guess u_X_quarrel u_X_firstImage u_X_secondImage u_X_kept u_X_refusals u_X_now_people_limit u_X_now_talks_limit u_X_now_dues_limit u_X_now_sights_limit u_X_now_rule_limit u_X_fraction_term u_X_text_width u_X_text_limit u_X_text_cells N_X_now_people_cells N_X_now_talks_cells N_X_now_dues_cells N_X_now_sights_cells N_X_now_rule_cells a_X_now_settings v_X_now_people_width v_X_now_people_size a_X_now_people_cells v_X_now_talks_width v_X_now_talks_size a_X_now_talks_cells v_X_now_dues_width v_X_now_dues_size a_X_now_dues_cells v_X_now_sights_width v_X_now_sights_size a_X_now_sights_cells a_X_now_stake v_X_now_rule_width v_X_now_rule_size a_X_now_rule_cells a_X_fraction_above_limbs a_X_fraction_below_limbs v_X_text_size)) rfl (st1 := [.int v5, .long ((31 : Int64) * x1)]) rfl (fun H locs hP hD hS => ?_)
        refine lv_i2l hx hb dX10_digest_21 rfl ?_
        refine lv_ladd hx hb dX10_digest_22 ?_
        refine lv_lstore_n (lv' := [(1, .long (((31 : Int64) * x1) + v5.toInt64)), (0, .ref q_X), (3, .int x3)]) hx hb dX10_digest_23 rfl hl (by decide) rfl (fun ls hl => ?_)
        refine lv_iinc (k := 2) (v := x3 + 1) (lv' := [(3, .int (x3 + 1)), (1, .long (((31 : Int64) * x1) + v5.toInt64)), (0, .ref q_X)]) hx hb dX10_digest_24 hl rfl (zinc (by decide)) (by decide) rfl (fun ls hl => ?_)
        refine lv_goto (tgt := 6) hx hb dX10_digest_27 (by decide) ?_
        exact ih (((31 : Int64) * x1) + v5.toInt64) (x3 + 1) _ _ _ (lv_sub hl [2, 1, 0] rfl) hP hD hS hg
  refine lv_ldc2 (v := 701) hx hb S.2.2.2.1 (ht _ zw_1062) dX10_digest_0 ?_
  refine lv_lstore_n (lv' := [(1, .long (701 : Int64)), (0, .ref q_X)]) hx hb dX10_digest_3 rfl hl (by decide) rfl (fun ls hl => ?_)
  refine lv_iconst (v := 0) hx hb dX10_digest_4 (by decide) ?_
  refine lv_istore_n (lv' := [(3, .int 0), (1, .long (701 : Int64)), (0, .ref q_X)]) hx hb dX10_digest_5 rfl hl (by decide) rfl (fun ls hl => ?_)
  exact B6 zF (701 : Int64) 0 _ _ _ (lv_sub hl [2, 1, 0] rfl) hP hD hS hg

/-! SpokenClockModel.in(JJJ)Z -/
abbrev ws_X11_in (cI cJ cZ cA : ClassId) : va_W := []
abbrev rm_X11_in : Room := { frames := 0, cells := 0, slots := 0, locals := 0 }
def g_X11_in (x0 : Int64) (x2 : Int64) (x4 : Int64) : Option (Int32) :=
  if (lg_cmp x0 x2) < 0 then (
    some (0)
  ) else (
    if 0 < (lg_cmp x0 x4) then (
      some (0)
    ) else (
      some (1)
    )
  )
theorem hd_X11_in : yX11_in.cls ≠ "java/lang/invoke/MethodHandle" ∧ yX11_in.cls ≠ "java/lang/invoke/VarHandle" ∧ (parseMethodDescriptor yX11_in.desc).map (fun d => d.parameters.length) = some 3 := by decide +kernel
set_option maxHeartbeats 4000000 in
set_option maxRecDepth 100000 in
theorem c_X11_in (l : Launch) (D : va_G) (cI cJ cZ cA : ClassId) (ga : Nat → Nat) (x0 : Int64) (x2 : Int64) (x4 : Int64) (o : Int32) (hg : g_X11_in x0 x2 x4 = some o) : zM l yX11_in (Cond.code yX11_in cX11_in 6 (some .boolean) :: wsL_law) rm_X11_in D (zTy cI cJ cZ cA) ga [.long x0, .long x2, .long x4] (ws_X11_in cI cJ cZ cA) (ws_X11_in cI cJ cZ cA) (some (.int o)) := by
  refine zenterN (own := RX11) (by decide) rfl rfl (Nat.le_of_ble_eq_true rfl) ?_
  intro p e s m args below meth c A ls Q S hA hK hG hl hP hD hS hret0
  have hx := S.1
  have hb := S.2.1
  have ht : ∀ w, w ∈ wsL_law → w.before args s = true := fun w h => S.2.2.2.2 w (List.mem_cons_of_mem _ h)
  have hret : ∀ (r9 : Int32), (some (r9) : Option (Int32)) = some o → narrow .boolean (.int r9) = .int r9 → ∀ (H : Heap) (locs : List Loc) (pc : Nat) (ls : Array Slot), va_P D vwCl (ws_X11_in cI cJ cZ cA) H → va_S A s.heap H locs → decode cX11_in pc = .ok (.ireturn, 1) → W p l e rm_X11_in s m args below meth c H locs 0 0 Q (F0 m pc ls [.int r9]) := by
    intro r9 he; cases he; exact hret0
  have hl : lv_has ls 6 [(0, .long x0), (2, .long x2), (4, .long x4)] := hl
  refine lv_lload_n hx hb dX11_in_0 rfl (lv_at hl 0 rfl) ?_
  refine lv_lload_n hx hb dX11_in_1 rfl (lv_at hl 1 rfl) ?_
  refine W.lcmp hx hb dX11_in_2 ?_
  refine lv_if_lt (tgt := 17) hx hb dX11_in_3 (by decide) (fun h3 => ?_) (fun h3 => ?_)
  · have hg := zp hg h3
    refine lv_iconst (v := 0) hx hb dX11_in_17 (by decide) ?_
    exact hret 0 hg (zb01 (Or.inl rfl)) _ _ _ _ hP hS dX11_in_18
  · have hg := zn hg h3
    refine lv_lload_n hx hb dX11_in_6 rfl (lv_at hl 0 rfl) ?_
    refine lv_lload hx hb dX11_in_7 (lv_at hl 2 rfl) ?_
    refine W.lcmp hx hb dX11_in_9 ?_
    refine lv_if_gt (tgt := 17) hx hb dX11_in_10 (by decide) (fun h10 => ?_) (fun h10 => ?_)
    · have hg := zp hg h10
      refine lv_iconst (v := 0) hx hb dX11_in_17 (by decide) ?_
      exact hret 0 hg (zb01 (Or.inl rfl)) _ _ _ _ hP hS dX11_in_18
    · have hg := zn hg h10
      refine lv_iconst (v := 1) hx hb dX11_in_13 (by decide) ?_
      refine lv_goto (tgt := 18) hx hb dX11_in_14 (by decide) ?_
      exact hret 1 hg (zb01 (Or.inr rfl)) _ _ _ _ hP hS dX11_in_18

/-! SpokenClockModel.refuse(I)I -/
abbrev ws_X11_refuse (cI cJ cZ cA : ClassId) (q_M q_M_refused : Nat) (u_M_now : Value) (u_M_images : Value) (u_M_kept : Value) (u_M_text : Value) (u_M_size : Value) (u_M_sign : Value) (u_M_manyAbove : Value) (u_M_manyBelow : Value) (u_M_above : Value) (u_M_below : Value) (u_M_at : Value) (u_M_begin : Value) (u_M_kind : Value) (u_M_value : Value) (u_M_read : Value) (u_M_acts : Value) (u_M_act : Value) (u_M_waits : Value) (u_M_wait : Value) (u_M_held : Value) (u_M_place : Value) (u_M_heap : Value) (u_M_clocks : Value) (u_M_counts : Value) (u_M_talking : Value) (u_M_most : Value) (u_M_hasA : Value) (u_M_hasB : Value) (u_M_talks : Value) (u_M_big : Value) (a_M_refused : Nat → Int32) : va_W := [(q_M, .inr (11, [u_M_now, u_M_images, u_M_kept, u_M_text, u_M_size, u_M_sign, u_M_manyAbove, u_M_manyBelow, u_M_above, u_M_below, .ref q_M_refused, u_M_at, u_M_begin, u_M_kind, u_M_value, u_M_read, u_M_acts, u_M_act, u_M_waits, u_M_wait, u_M_held, u_M_place, u_M_heap, u_M_clocks, u_M_counts, u_M_talking, u_M_most, u_M_hasA, u_M_hasB, u_M_talks, u_M_big])), (q_M_refused, .inl (cI, 3, .inl a_M_refused))]
abbrev rm_X11_refuse : Room := { frames := 0, cells := 0, slots := 0, locals := 0 }
def g_X11_refuse (x1 : Int32) (a_M_refused : Nat → Int32) : Option (Int32 × (Nat → Int32)) :=
  if ((-2) - x1) < 0 ∨ 3 ≤ ((-2) - x1).toNatClampNeg then none else
  if ((-2) - x1) < 0 ∨ 3 ≤ ((-2) - x1).toNatClampNeg then none else
  some (x1, upd a_M_refused (((-2) - x1).toNatClampNeg) ((a_M_refused (((-2) - x1).toNatClampNeg)) + 1))
theorem hd_X11_refuse : yX11_refuse.cls = RX11 ∧ yX11_refuse.cls ≠ "java/lang/invoke/MethodHandle" ∧ yX11_refuse.cls ≠ "java/lang/invoke/VarHandle" ∧ (parseMethodDescriptor yX11_refuse.desc).map (fun d => d.parameters.length) = some 1 := by decide +kernel
set_option maxHeartbeats 4000000 in
set_option maxRecDepth 100000 in
theorem c_X11_refuse (l : Launch) (D : va_G) (cI cJ cZ cA : ClassId) (ga : Nat → Nat) (q_M q_M_refused : Nat) (u_M_now : Value) (u_M_images : Value) (u_M_kept : Value) (u_M_text : Value) (u_M_size : Value) (u_M_sign : Value) (u_M_manyAbove : Value) (u_M_manyBelow : Value) (u_M_above : Value) (u_M_below : Value) (u_M_at : Value) (u_M_begin : Value) (u_M_kind : Value) (u_M_value : Value) (u_M_read : Value) (u_M_acts : Value) (u_M_act : Value) (u_M_waits : Value) (u_M_wait : Value) (u_M_held : Value) (u_M_place : Value) (u_M_heap : Value) (u_M_clocks : Value) (u_M_counts : Value) (u_M_talking : Value) (u_M_most : Value) (u_M_hasA : Value) (u_M_hasB : Value) (u_M_talks : Value) (u_M_big : Value) (a_M_refused : Nat → Int32) (x1 : Int32) (o : Int32 × (Nat → Int32)) (hg : g_X11_refuse x1 a_M_refused = some o) : zM l yX11_refuse (Cond.code yX11_refuse cX11_refuse 2 (some .int) :: wsL_law) rm_X11_refuse D (zTy cI cJ cZ cA) ga [.ref q_M, .int x1] (ws_X11_refuse cI cJ cZ cA q_M q_M_refused u_M_now u_M_images u_M_kept u_M_text u_M_size u_M_sign u_M_manyAbove u_M_manyBelow u_M_above u_M_below u_M_at u_M_begin u_M_kind u_M_value u_M_read u_M_acts u_M_act u_M_waits u_M_wait u_M_held u_M_place u_M_heap u_M_clocks u_M_counts u_M_talking u_M_most u_M_hasA u_M_hasB u_M_talks u_M_big a_M_refused) (ws_X11_refuse cI cJ cZ cA q_M q_M_refused u_M_now u_M_images u_M_kept u_M_text u_M_size u_M_sign u_M_manyAbove u_M_manyBelow u_M_above u_M_below u_M_at u_M_begin u_M_kind u_M_value u_M_read u_M_acts u_M_act u_M_waits u_M_wait u_M_held u_M_place u_M_heap u_M_clocks u_M_counts u_M_talking u_M_most u_M_hasA u_M_hasB u_M_talks u_M_big o.2) (some (.int o.1)) := by
  refine zenterI (own := RX11) (by decide) rfl rfl (Nat.le_of_ble_eq_true rfl) ?_
  intro p e s m args below meth c A ls Q S hA hK hG hl hP hD hS hret0
  have hx := S.1
  have hb := S.2.1
  have ht : ∀ w, w ∈ wsL_law → w.before args s = true := fun w h => S.2.2.2.2 w (List.mem_cons_of_mem _ h)
  have hret : ∀ (r9 : Int32) (a_M_refused : Nat → Int32), (some (r9, a_M_refused) : Option (Int32 × (Nat → Int32))) = some o → ∀ (H : Heap) (locs : List Loc) (pc : Nat) (ls : Array Slot), va_P D vwCl (ws_X11_refuse cI cJ cZ cA q_M q_M_refused u_M_now u_M_images u_M_kept u_M_text u_M_size u_M_sign u_M_manyAbove u_M_manyBelow u_M_above u_M_below u_M_at u_M_begin u_M_kind u_M_value u_M_read u_M_acts u_M_act u_M_waits u_M_wait u_M_held u_M_place u_M_heap u_M_clocks u_M_counts u_M_talking u_M_most u_M_hasA u_M_hasB u_M_talks u_M_big a_M_refused) H → va_S A s.heap H locs → decode cX11_refuse pc = .ok (.ireturn, 1) → W p l e rm_X11_refuse s m args below meth c H locs 0 0 Q (F0 m pc ls [.int r9]) := by
    intro r9 a_M_refused he; cases he; exact hret0
  have hl : lv_has ls 2 [(0, .ref q_M), (1, .int x1)] := hl
  refine lv_aload_n hx hb dX11_refuse_0 rfl (lv_at hl 0 rfl) ?_
  refine zget (C := RX11) (T := TX11) (N := 31) S hK hP 0 rfl rfl 10 (Nat.le_of_ble_eq_true rfl) zf_11 zw_156 rfl dX11_refuse_1 ?_
  refine lv_bipush (v := (-2)) hx hb dX11_refuse_4 (by decide) ?_
  refine lv_iload_n hx hb dX11_refuse_6 rfl (lv_at hl 1 rfl) ?_
  refine lv_isub hx hb dX11_refuse_7 ?_
  refine lv_dup2_11 hx hb dX11_refuse_8 rfl rfl ?_
  obtain ⟨h1, hg⟩ := zck hg
  refine ziald hx hb hK hP 1 0 rfl rfl (j := (((-2) - x1).toNatClampNeg)) h1 rfl dX11_refuse_9 ?_
  refine lv_iconst (v := 1) hx hb dX11_refuse_10 (by decide) ?_
  refine lv_iadd hx hb dX11_refuse_11 ?_
  obtain ⟨h2, hg⟩ := zck hg
  refine ziast hx hb hK hP hD hS 1 0 rfl rfl (j := (((-2) - x1).toNatClampNeg)) h2 rfl dX11_refuse_12 (w2 := (ws_X11_refuse cI cJ cZ cA q_M q_M_refused u_M_now u_M_images u_M_kept u_M_text u_M_size u_M_sign u_M_manyAbove u_M_manyBelow u_M_above u_M_below u_M_at u_M_begin u_M_kind u_M_value u_M_read u_M_acts u_M_act u_M_waits u_M_wait u_M_held u_M_place u_M_heap u_M_clocks u_M_counts u_M_talking u_M_most u_M_hasA u_M_hasB u_M_talks u_M_big (upd a_M_refused (((-2) - x1).toNatClampNeg) ((a_M_refused (((-2) - x1).toNatClampNeg)) + 1)))) rfl (fun H locs hP hD hS => ?_)
  refine lv_iload_n hx hb dX11_refuse_13 rfl (lv_at hl 1 rfl) ?_
  exact hret x1 (upd a_M_refused (((-2) - x1).toNatClampNeg) ((a_M_refused (((-2) - x1).toNatClampNeg)) + 1)) hg _ _ _ _ hP hS dX11_refuse_14

/-! SpokenClockModel.worse()I -/
abbrev ws_X11_worse (cI cJ cZ cA : ClassId) (q_M q_M_refused : Nat) (u_M_now : Value) (u_M_images : Value) (u_M_kept : Value) (u_M_text : Value) (u_M_size : Value) (u_M_sign : Value) (u_M_manyAbove : Value) (u_M_manyBelow : Value) (u_M_above : Value) (u_M_below : Value) (u_M_at : Value) (u_M_begin : Value) (u_M_kind : Value) (u_M_value : Value) (u_M_read : Value) (u_M_acts : Value) (u_M_act : Value) (u_M_waits : Value) (u_M_wait : Value) (u_M_held : Value) (u_M_place : Value) (u_M_heap : Value) (u_M_clocks : Value) (u_M_counts : Value) (u_M_talking : Value) (u_M_most : Value) (u_M_hasA : Value) (u_M_hasB : Value) (u_M_talks : Value) (u_M_big : Value) (a_M_refused : Nat → Int32) : va_W := [(q_M, .inr (11, [u_M_now, u_M_images, u_M_kept, u_M_text, u_M_size, u_M_sign, u_M_manyAbove, u_M_manyBelow, u_M_above, u_M_below, .ref q_M_refused, u_M_at, u_M_begin, u_M_kind, u_M_value, u_M_read, u_M_acts, u_M_act, u_M_waits, u_M_wait, u_M_held, u_M_place, u_M_heap, u_M_clocks, u_M_counts, u_M_talking, u_M_most, u_M_hasA, u_M_hasB, u_M_talks, u_M_big])), (q_M_refused, .inl (cI, 3, .inl a_M_refused))]
abbrev rm_X11_worse : Room := { frames := 0, cells := 0, slots := 0, locals := 0 }
def g_X11_worse (a_M_refused : Nat → Int32) : Option (Int32 × (Nat → Int32)) :=
  some ((-10000), upd a_M_refused 0 ((a_M_refused 0) + 1))
theorem hd_X11_worse : yX11_worse.cls = RX11 ∧ yX11_worse.cls ≠ "java/lang/invoke/MethodHandle" ∧ yX11_worse.cls ≠ "java/lang/invoke/VarHandle" ∧ (parseMethodDescriptor yX11_worse.desc).map (fun d => d.parameters.length) = some 0 := by decide +kernel
set_option maxHeartbeats 4000000 in
set_option maxRecDepth 100000 in
theorem c_X11_worse (l : Launch) (D : va_G) (cI cJ cZ cA : ClassId) (ga : Nat → Nat) (q_M q_M_refused : Nat) (u_M_now : Value) (u_M_images : Value) (u_M_kept : Value) (u_M_text : Value) (u_M_size : Value) (u_M_sign : Value) (u_M_manyAbove : Value) (u_M_manyBelow : Value) (u_M_above : Value) (u_M_below : Value) (u_M_at : Value) (u_M_begin : Value) (u_M_kind : Value) (u_M_value : Value) (u_M_read : Value) (u_M_acts : Value) (u_M_act : Value) (u_M_waits : Value) (u_M_wait : Value) (u_M_held : Value) (u_M_place : Value) (u_M_heap : Value) (u_M_clocks : Value) (u_M_counts : Value) (u_M_talking : Value) (u_M_most : Value) (u_M_hasA : Value) (u_M_hasB : Value) (u_M_talks : Value) (u_M_big : Value) (a_M_refused : Nat → Int32) (o : Int32 × (Nat → Int32)) (hg : g_X11_worse a_M_refused = some o) : zM l yX11_worse (Cond.code yX11_worse cX11_worse 1 (some .int) :: wsL_law) rm_X11_worse D (zTy cI cJ cZ cA) ga [.ref q_M] (ws_X11_worse cI cJ cZ cA q_M q_M_refused u_M_now u_M_images u_M_kept u_M_text u_M_size u_M_sign u_M_manyAbove u_M_manyBelow u_M_above u_M_below u_M_at u_M_begin u_M_kind u_M_value u_M_read u_M_acts u_M_act u_M_waits u_M_wait u_M_held u_M_place u_M_heap u_M_clocks u_M_counts u_M_talking u_M_most u_M_hasA u_M_hasB u_M_talks u_M_big a_M_refused) (ws_X11_worse cI cJ cZ cA q_M q_M_refused u_M_now u_M_images u_M_kept u_M_text u_M_size u_M_sign u_M_manyAbove u_M_manyBelow u_M_above u_M_below u_M_at u_M_begin u_M_kind u_M_value u_M_read u_M_acts u_M_act u_M_waits u_M_wait u_M_held u_M_place u_M_heap u_M_clocks u_M_counts u_M_talking u_M_most u_M_hasA u_M_hasB u_M_talks u_M_big o.2) (some (.int o.1)) := by
  refine zenterI (own := RX11) (by decide) rfl rfl (Nat.le_of_ble_eq_true rfl) ?_
  intro p e s m args below meth c A ls Q S hA hK hG hl hP hD hS hret0
  have hx := S.1
  have hb := S.2.1
  have ht : ∀ w, w ∈ wsL_law → w.before args s = true := fun w h => S.2.2.2.2 w (List.mem_cons_of_mem _ h)
  have hret : ∀ (r9 : Int32) (a_M_refused : Nat → Int32), (some (r9, a_M_refused) : Option (Int32 × (Nat → Int32))) = some o → ∀ (H : Heap) (locs : List Loc) (pc : Nat) (ls : Array Slot), va_P D vwCl (ws_X11_worse cI cJ cZ cA q_M q_M_refused u_M_now u_M_images u_M_kept u_M_text u_M_size u_M_sign u_M_manyAbove u_M_manyBelow u_M_above u_M_below u_M_at u_M_begin u_M_kind u_M_value u_M_read u_M_acts u_M_act u_M_waits u_M_wait u_M_held u_M_place u_M_heap u_M_clocks u_M_counts u_M_talking u_M_most u_M_hasA u_M_hasB u_M_talks u_M_big a_M_refused) H → va_S A s.heap H locs → decode cX11_worse pc = .ok (.ireturn, 1) → W p l e rm_X11_worse s m args below meth c H locs 0 0 Q (F0 m pc ls [.int r9]) := by
    intro r9 a_M_refused he; cases he; exact hret0
  have hl : lv_has ls 1 [(0, .ref q_M)] := hl
  refine lv_aload_n hx hb dX11_worse_0 rfl (lv_at hl 0 rfl) ?_
  refine zget (C := RX11) (T := TX11) (N := 31) S hK hP 0 rfl rfl 10 (Nat.le_of_ble_eq_true rfl) zf_11 zw_156 rfl dX11_worse_1 ?_
  refine lv_iconst (v := 0) hx hb dX11_worse_4 (by decide) ?_
  refine lv_dup2_11 hx hb dX11_worse_5 rfl rfl ?_
  refine ziald hx hb hK hP 1 0 rfl rfl (j := 0) (zin (by decide)) (by decide) dX11_worse_6 ?_
  refine lv_iconst (v := 1) hx hb dX11_worse_7 (by decide) ?_
  refine lv_iadd hx hb dX11_worse_8 ?_
  refine ziast hx hb hK hP hD hS 1 0 rfl rfl (j := 0) (zin (by decide)) (by decide) dX11_worse_9 (w2 := (ws_X11_worse cI cJ cZ cA q_M q_M_refused u_M_now u_M_images u_M_kept u_M_text u_M_size u_M_sign u_M_manyAbove u_M_manyBelow u_M_above u_M_below u_M_at u_M_begin u_M_kind u_M_value u_M_read u_M_acts u_M_act u_M_waits u_M_wait u_M_held u_M_place u_M_heap u_M_clocks u_M_counts u_M_talking u_M_most u_M_hasA u_M_hasB u_M_talks u_M_big (upd a_M_refused 0 ((a_M_refused 0) + 1)))) rfl (fun H locs hP hD hS => ?_)
  refine lv_sipush (v := (-10000)) hx hb dX11_worse_10 (by decide) ?_
  exact hret (-10000) (upd a_M_refused 0 ((a_M_refused 0) + 1)) hg _ _ _ _ hP hS dX11_worse_13

/-! SpokenClockModel.isPut(II)Z -/
abbrev ws_X11_isPut (cI cJ cZ cA : ClassId) : va_W := []
abbrev rm_X11_isPut : Room := { frames := 1, cells := 0, slots := 0, locals := 25 }
def g_X11_isPut (x0 : Int32) (x1 : Int32) : Option (Int32) :=
  if x0 = 0 then (
    (g_X11_in x1.toInt64 (1 : Int64) (4 : Int64)).bind fun v5 =>
    if v5 = 0 ∨ v5 = 1 then
      some (v5)
    else none
  ) else (
    if x0 = 1 then (
      (g_X11_in x1.toInt64 (0 : Int64) (1 : Int64)).bind fun v3 =>
      if v3 = 0 ∨ v3 = 1 then
        some (v3)
      else none
    ) else (
      if x0 = 2 then (
        (g_X11_in x1.toInt64 (0 : Int64) (240 : Int64)).bind fun v1 =>
        if v1 = 0 then (
          some (0)
        ) else (
          some (1)
        )
      ) else (
        some (0)
      )
    )
  )
theorem hd_X11_isPut : yX11_isPut.cls ≠ "java/lang/invoke/MethodHandle" ∧ yX11_isPut.cls ≠ "java/lang/invoke/VarHandle" ∧ (parseMethodDescriptor yX11_isPut.desc).map (fun d => d.parameters.length) = some 2 := by decide +kernel
set_option maxHeartbeats 4000000 in
set_option maxRecDepth 100000 in
theorem c_X11_isPut (l : Launch) (D : va_G) (cI cJ cZ cA : ClassId) (ga : Nat → Nat) (x0 : Int32) (x1 : Int32) (o : Int32) (hg : g_X11_isPut x0 x1 = some o) : zM l yX11_isPut (Cond.code yX11_isPut cX11_isPut 2 (some .boolean) :: wsL_law) rm_X11_isPut D (zTy cI cJ cZ cA) ga [.int x0, .int x1] (ws_X11_isPut cI cJ cZ cA) (ws_X11_isPut cI cJ cZ cA) (some (.int o)) := by
  refine zenterN (own := RX11) (by decide) rfl rfl (Nat.le_of_ble_eq_true rfl) ?_
  intro p e s m args below meth c A ls Q S hA hK hG hl hP hD hS hret0
  have hx := S.1
  have hb := S.2.1
  have ht : ∀ w, w ∈ wsL_law → w.before args s = true := fun w h => S.2.2.2.2 w (List.mem_cons_of_mem _ h)
  have hret : ∀ (r9 : Int32), (some (r9) : Option (Int32)) = some o → narrow .boolean (.int r9) = .int r9 → ∀ (H : Heap) (locs : List Loc) (pc : Nat) (ls : Array Slot), va_P D vwCl (ws_X11_isPut cI cJ cZ cA) H → va_S A s.heap H locs → decode cX11_isPut pc = .ok (.ireturn, 1) → W p l e rm_X11_isPut s m args below meth c H locs 0 0 Q (F0 m pc ls [.int r9]) := by
    intro r9 he; cases he; exact hret0
  have hl : lv_has ls 2 [(0, .int x0), (1, .int x1)] := hl
  refine lv_iload_n hx hb dX11_isPut_0 rfl (lv_at hl 0 rfl) ?_
  refine lv_if_ne (tgt := 16) hx hb dX11_isPut_1 (by decide) (fun h1 => ?_) (fun h1 => ?_)
  · have hg := zn hg h1
    refine lv_iload_n hx hb dX11_isPut_16 rfl (lv_at hl 0 rfl) ?_
    refine lv_iconst (v := 1) hx hb dX11_isPut_17 (by decide) ?_
    refine lv_icmp_ne (tgt := 31) hx hb dX11_isPut_18 (by decide) (fun h18 => ?_) (fun h18 => ?_)
    · have hg := zn hg h18
      refine lv_iload_n hx hb dX11_isPut_31 rfl (lv_at hl 0 rfl) ?_
      refine lv_iconst (v := 2) hx hb dX11_isPut_32 (by decide) ?_
      refine lv_icmp_ne (tgt := 52) hx hb dX11_isPut_33 (by decide) (fun h33 => ?_) (fun h33 => ?_)
      · have hg := zn hg h33
        refine lv_iconst (v := 0) hx hb dX11_isPut_52 (by decide) ?_
        exact hret 0 hg (zb01 (Or.inl rfl)) _ _ _ _ hP hS dX11_isPut_53
      · have hg := zp hg h33
        refine lv_iload_n hx hb dX11_isPut_36 rfl (lv_at hl 1 rfl) ?_
        refine lv_i2l hx hb dX11_isPut_37 rfl ?_
        refine lv_lconst (v := 0) hx hb dX11_isPut_38 (by decide) ?_
        refine lv_ldc2 (v := 240) hx hb S.2.2.2.1 (ht _ zw_219) dX11_isPut_39 ?_
        obtain ⟨v1, hc2, hg⟩ := zbd hg
        refine zcallS (rest := []) S (c_X11_in l D cI cJ cZ cA ga x1.toInt64 (0 : Int64) (240 : Int64) v1 hc2) (zgS zw_220 zw_221 zw_5 zw_222) rfl hd_X11_in ⟨rfl, rfl⟩ ⟨Nat.le_of_ble_eq_true rfl, Nat.le_of_ble_eq_true rfl⟩ rfl hl.1 rfl (Nat.le_of_ble_eq_true rfl) dX11_isPut_42 hP hD hS hA hK hG (isC := []) rfl (by decide +kernel) rfl ⟨Nat.zero_le _, Nat.zero_le _⟩ (pl := []) (nw := 0) rfl (by decide +kernel) (w2 := (ws_X11_isPut cI cJ cZ cA)) rfl (st1 := [.int v1]) rfl (fun H locs hP hD hS => ?_)
        refine lv_if_eq (tgt := 52) hx hb dX11_isPut_45 (by decide) (fun h45 => ?_) (fun h45 => ?_)
        · have hg := zp hg h45
          refine lv_iconst (v := 0) hx hb dX11_isPut_52 (by decide) ?_
          exact hret 0 hg (zb01 (Or.inl rfl)) _ _ _ _ hP hS dX11_isPut_53
        · have hg := zn hg h45
          refine lv_iconst (v := 1) hx hb dX11_isPut_48 (by decide) ?_
          refine lv_goto (tgt := 53) hx hb dX11_isPut_49 (by decide) ?_
          exact hret 1 hg (zb01 (Or.inr rfl)) _ _ _ _ hP hS dX11_isPut_53
    · have hg := zp hg h18
      refine lv_iload_n hx hb dX11_isPut_21 rfl (lv_at hl 1 rfl) ?_
      refine lv_i2l hx hb dX11_isPut_22 rfl ?_
      refine lv_lconst (v := 0) hx hb dX11_isPut_23 (by decide) ?_
      refine lv_lconst (v := 1) hx hb dX11_isPut_24 (by decide) ?_
      obtain ⟨v3, hc4, hg⟩ := zbd hg
      refine zcallS (rest := []) S (c_X11_in l D cI cJ cZ cA ga x1.toInt64 (0 : Int64) (1 : Int64) v3 hc4) (zgS zw_220 zw_221 zw_5 zw_222) rfl hd_X11_in ⟨rfl, rfl⟩ ⟨Nat.le_of_ble_eq_true rfl, Nat.le_of_ble_eq_true rfl⟩ rfl hl.1 rfl (Nat.le_of_ble_eq_true rfl) dX11_isPut_25 hP hD hS hA hK hG (isC := []) rfl (by decide +kernel) rfl ⟨Nat.zero_le _, Nat.zero_le _⟩ (pl := []) (nw := 0) rfl (by decide +kernel) (w2 := (ws_X11_isPut cI cJ cZ cA)) rfl (st1 := [.int v3]) rfl (fun H locs hP hD hS => ?_)
      refine lv_goto (tgt := 53) hx hb dX11_isPut_28 (by decide) ?_
      obtain ⟨hz01, hg⟩ := zck2 hg
      exact hret v3 hg (zb01 hz01) _ _ _ _ hP hS dX11_isPut_53
  · have hg := zp hg h1
    refine lv_iload_n hx hb dX11_isPut_4 rfl (lv_at hl 1 rfl) ?_
    refine lv_i2l hx hb dX11_isPut_5 rfl ?_
    refine lv_lconst (v := 1) hx hb dX11_isPut_6 (by decide) ?_
    refine lv_ldc2 (v := 4) hx hb S.2.2.2.1 (ht _ zw_218) dX11_isPut_7 ?_
    obtain ⟨v5, hc6, hg⟩ := zbd hg
    refine zcallS (rest := []) S (c_X11_in l D cI cJ cZ cA ga x1.toInt64 (1 : Int64) (4 : Int64) v5 hc6) (zgS zw_220 zw_221 zw_5 zw_222) rfl hd_X11_in ⟨rfl, rfl⟩ ⟨Nat.le_of_ble_eq_true rfl, Nat.le_of_ble_eq_true rfl⟩ rfl hl.1 rfl (Nat.le_of_ble_eq_true rfl) dX11_isPut_10 hP hD hS hA hK hG (isC := []) rfl (by decide +kernel) rfl ⟨Nat.zero_le _, Nat.zero_le _⟩ (pl := []) (nw := 0) rfl (by decide +kernel) (w2 := (ws_X11_isPut cI cJ cZ cA)) rfl (st1 := [.int v5]) rfl (fun H locs hP hD hS => ?_)
    refine lv_goto (tgt := 53) hx hb dX11_isPut_13 (by decide) ?_
    obtain ⟨hz01, hg⟩ := zck2 hg
    exact hret v5 hg (zb01 hz01) _ _ _ _ hP hS dX11_isPut_53

/-! SpokenClockModel.put(II)I -/
abbrev ws_X11_put (cI cJ cZ cA : ClassId) (q_M q_M_now q_M_refused : Nat) (u_M_images : Value) (u_M_kept : Value) (u_M_text : Value) (u_M_size : Value) (u_M_sign : Value) (u_M_manyAbove : Value) (u_M_manyBelow : Value) (u_M_above : Value) (u_M_below : Value) (u_M_at : Value) (u_M_begin : Value) (u_M_kind : Value) (u_M_value : Value) (u_M_read : Value) (u_M_acts : Value) (u_M_act : Value) (u_M_waits : Value) (u_M_wait : Value) (u_M_held : Value) (u_M_place : Value) (u_M_heap : Value) (u_M_clocks : Value) (u_M_counts : Value) (u_M_talking : Value) (u_M_most : Value) (u_M_hasA : Value) (u_M_hasB : Value) (u_M_talks : Value) (u_M_big : Value) (a_M_now : Nat → Int32) (a_M_refused : Nat → Int32) : va_W := [(q_M, .inr (11, [.ref q_M_now, u_M_images, u_M_kept, u_M_text, u_M_size, u_M_sign, u_M_manyAbove, u_M_manyBelow, u_M_above, u_M_below, .ref q_M_refused, u_M_at, u_M_begin, u_M_kind, u_M_value, u_M_read, u_M_acts, u_M_act, u_M_waits, u_M_wait, u_M_held, u_M_place, u_M_heap, u_M_clocks, u_M_counts, u_M_talking, u_M_most, u_M_hasA, u_M_hasB, u_M_talks, u_M_big])), (q_M_now, .inl (cI, 155, .inl a_M_now)), (q_M_refused, .inl (cI, 3, .inl a_M_refused))]
abbrev rm_X11_put : Room := { frames := 2, cells := 0, slots := 0, locals := 46 }
def g_X11_put (x1 : Int32) (x2 : Int32) (a_M_now : Nat → Int32) (a_M_refused : Nat → Int32) : Option (Int32 × (Nat → Int32) × (Nat → Int32)) :=
  (g_X11_isPut x1 x2).bind fun v1 =>
  if v1 = 0 then (
    (g_X11_refuse (-2) a_M_refused).bind fun v5 =>
    some (v5.1, a_M_now, v5.2)
  ) else (
    if (0 + x1) < 0 ∨ 155 ≤ (0 + x1).toNatClampNeg then none else
    if (0 + x1) < 0 ∨ 155 ≤ (0 + x1).toNatClampNeg then none else
    some (a_M_now ((0 + x1).toNatClampNeg), upd a_M_now ((0 + x1).toNatClampNeg) x2, a_M_refused)
  )
theorem hd_X11_put : yX11_put.cls = RX11 ∧ yX11_put.cls ≠ "java/lang/invoke/MethodHandle" ∧ yX11_put.cls ≠ "java/lang/invoke/VarHandle" ∧ (parseMethodDescriptor yX11_put.desc).map (fun d => d.parameters.length) = some 2 := by decide +kernel
set_option maxHeartbeats 4000000 in
set_option maxRecDepth 100000 in
theorem c_X11_put (l : Launch) (D : va_G) (cI cJ cZ cA : ClassId) (ga : Nat → Nat) (q_M q_M_now q_M_refused : Nat) (u_M_images : Value) (u_M_kept : Value) (u_M_text : Value) (u_M_size : Value) (u_M_sign : Value) (u_M_manyAbove : Value) (u_M_manyBelow : Value) (u_M_above : Value) (u_M_below : Value) (u_M_at : Value) (u_M_begin : Value) (u_M_kind : Value) (u_M_value : Value) (u_M_read : Value) (u_M_acts : Value) (u_M_act : Value) (u_M_waits : Value) (u_M_wait : Value) (u_M_held : Value) (u_M_place : Value) (u_M_heap : Value) (u_M_clocks : Value) (u_M_counts : Value) (u_M_talking : Value) (u_M_most : Value) (u_M_hasA : Value) (u_M_hasB : Value) (u_M_talks : Value) (u_M_big : Value) (a_M_now : Nat → Int32) (a_M_refused : Nat → Int32) (x1 : Int32) (x2 : Int32) (o : Int32 × (Nat → Int32) × (Nat → Int32)) (hg : g_X11_put x1 x2 a_M_now a_M_refused = some o) : zM l yX11_put (Cond.code yX11_put cX11_put 4 (some .int) :: wsL_law) rm_X11_put D (zTy cI cJ cZ cA) ga [.ref q_M, .int x1, .int x2] (ws_X11_put cI cJ cZ cA q_M q_M_now q_M_refused u_M_images u_M_kept u_M_text u_M_size u_M_sign u_M_manyAbove u_M_manyBelow u_M_above u_M_below u_M_at u_M_begin u_M_kind u_M_value u_M_read u_M_acts u_M_act u_M_waits u_M_wait u_M_held u_M_place u_M_heap u_M_clocks u_M_counts u_M_talking u_M_most u_M_hasA u_M_hasB u_M_talks u_M_big a_M_now a_M_refused) (ws_X11_put cI cJ cZ cA q_M q_M_now q_M_refused u_M_images u_M_kept u_M_text u_M_size u_M_sign u_M_manyAbove u_M_manyBelow u_M_above u_M_below u_M_at u_M_begin u_M_kind u_M_value u_M_read u_M_acts u_M_act u_M_waits u_M_wait u_M_held u_M_place u_M_heap u_M_clocks u_M_counts u_M_talking u_M_most u_M_hasA u_M_hasB u_M_talks u_M_big o.2.1 o.2.2) (some (.int o.1)) := by
  refine zenterI (own := RX11) (by decide) rfl rfl (Nat.le_of_ble_eq_true rfl) ?_
  intro p e s m args below meth c A ls Q S hA hK hG hl hP hD hS hret0
  have hx := S.1
  have hb := S.2.1
  have ht : ∀ w, w ∈ wsL_law → w.before args s = true := fun w h => S.2.2.2.2 w (List.mem_cons_of_mem _ h)
  have hret : ∀ (r9 : Int32) (a_M_now : Nat → Int32) (a_M_refused : Nat → Int32), (some (r9, a_M_now, a_M_refused) : Option (Int32 × (Nat → Int32) × (Nat → Int32))) = some o → ∀ (H : Heap) (locs : List Loc) (pc : Nat) (ls : Array Slot), va_P D vwCl (ws_X11_put cI cJ cZ cA q_M q_M_now q_M_refused u_M_images u_M_kept u_M_text u_M_size u_M_sign u_M_manyAbove u_M_manyBelow u_M_above u_M_below u_M_at u_M_begin u_M_kind u_M_value u_M_read u_M_acts u_M_act u_M_waits u_M_wait u_M_held u_M_place u_M_heap u_M_clocks u_M_counts u_M_talking u_M_most u_M_hasA u_M_hasB u_M_talks u_M_big a_M_now a_M_refused) H → va_S A s.heap H locs → decode cX11_put pc = .ok (.ireturn, 1) → W p l e rm_X11_put s m args below meth c H locs 0 0 Q (F0 m pc ls [.int r9]) := by
    intro r9 a_M_now a_M_refused he; cases he; exact hret0
  have hl : lv_has ls 4 [(0, .ref q_M), (1, .int x1), (2, .int x2)] := hl
  refine lv_iload_n hx hb dX11_put_0 rfl (lv_at hl 1 rfl) ?_
  refine lv_iload_n hx hb dX11_put_1 rfl (lv_at hl 2 rfl) ?_
  obtain ⟨v1, hc2, hg⟩ := zbd hg
  refine zcallS (rest := []) S (c_X11_isPut l D cI cJ cZ cA ga x1 x2 v1 hc2) (zgS zw_215 zw_216 zw_5 zw_217) rfl hd_X11_isPut ⟨rfl, rfl⟩ ⟨Nat.le_of_ble_eq_true rfl, Nat.le_of_ble_eq_true rfl⟩ rfl hl.1 rfl (Nat.le_of_ble_eq_true rfl) dX11_put_2 hP hD hS hA hK hG (isC := []) rfl (by decide +kernel) rfl ⟨Nat.zero_le _, Nat.zero_le _⟩ (pl := [none, none, none]) (nw := 3) rfl (by decide +kernel) (w2 := (ws_X11_put cI cJ cZ cA q_M q_M_now q_M_refused u_M_images u_M_kept u_M_text u_M_size u_M_sign u_M_manyAbove u_M_manyBelow u_M_above u_M_below u_M_at u_M_begin u_M_kind u_M_value u_M_read u_M_acts u_M_act u_M_waits u_M_wait u_M_held u_M_place u_M_heap u_M_clocks u_M_counts u_M_talking u_M_most u_M_hasA u_M_hasB u_M_talks u_M_big a_M_now a_M_refused)) rfl (st1 := [.int v1]) rfl (fun H locs hP hD hS => ?_)
  refine lv_if_ne (tgt := 15) hx hb dX11_put_5 (by decide) (fun h5 => ?_) (fun h5 => ?_)
  · have hg := zn hg h5
    refine lv_aload_n hx hb dX11_put_15 rfl (lv_at hl 0 rfl) ?_
    refine zget (C := RX11) (T := TX11) (N := 31) S hK hP 0 rfl rfl 0 (Nat.le_of_ble_eq_true rfl) zf_11 zw_149 rfl dX11_put_16 ?_
    refine lv_iconst (v := 0) hx hb dX11_put_19 (by decide) ?_
    refine lv_iload_n hx hb dX11_put_20 rfl (lv_at hl 1 rfl) ?_
    refine lv_iadd hx hb dX11_put_21 ?_
    obtain ⟨h3, hg⟩ := zck hg
    refine ziald hx hb hK hP 1 0 rfl rfl (j := ((0 + x1).toNatClampNeg)) h3 rfl dX11_put_22 ?_
    refine lv_istore_n (lv' := [(3, .int (a_M_now ((0 + x1).toNatClampNeg))), (0, .ref q_M), (1, .int x1), (2, .int x2)]) hx hb dX11_put_23 rfl hl (by decide) rfl (fun ls hl => ?_)
    refine lv_aload_n hx hb dX11_put_24 rfl (lv_at hl 1 rfl) ?_
    refine zget (C := RX11) (T := TX11) (N := 31) S hK hP 0 rfl rfl 0 (Nat.le_of_ble_eq_true rfl) zf_11 zw_149 rfl dX11_put_25 ?_
    refine lv_iconst (v := 0) hx hb dX11_put_28 (by decide) ?_
    refine lv_iload_n hx hb dX11_put_29 rfl (lv_at hl 2 rfl) ?_
    refine lv_iadd hx hb dX11_put_30 ?_
    refine lv_iload_n hx hb dX11_put_31 rfl (lv_at hl 3 rfl) ?_
    obtain ⟨h4, hg⟩ := zck hg
    refine ziast hx hb hK hP hD hS 1 0 rfl rfl (j := ((0 + x1).toNatClampNeg)) h4 rfl dX11_put_32 (w2 := (ws_X11_put cI cJ cZ cA q_M q_M_now q_M_refused u_M_images u_M_kept u_M_text u_M_size u_M_sign u_M_manyAbove u_M_manyBelow u_M_above u_M_below u_M_at u_M_begin u_M_kind u_M_value u_M_read u_M_acts u_M_act u_M_waits u_M_wait u_M_held u_M_place u_M_heap u_M_clocks u_M_counts u_M_talking u_M_most u_M_hasA u_M_hasB u_M_talks u_M_big (upd a_M_now ((0 + x1).toNatClampNeg) x2) a_M_refused)) rfl (fun H locs hP hD hS => ?_)
    refine lv_iload_n hx hb dX11_put_33 rfl (lv_at hl 0 rfl) ?_
    exact hret (a_M_now ((0 + x1).toNatClampNeg)) (upd a_M_now ((0 + x1).toNatClampNeg) x2) a_M_refused hg _ _ _ _ hP hS dX11_put_34
  · have hg := zp hg h5
    refine lv_aload_n hx hb dX11_put_8 rfl (lv_at hl 0 rfl) ?_
    refine lv_bipush (v := (-2)) hx hb dX11_put_9 (by decide) ?_
    obtain ⟨v5, hc6, hg⟩ := zbd hg
    refine zcallV (rest := []) S (c_X11_refuse l D cI cJ cZ cA ga q_M q_M_refused (.ref q_M_now) u_M_images u_M_kept u_M_text u_M_size u_M_sign u_M_manyAbove u_M_manyBelow u_M_above u_M_below u_M_at u_M_begin u_M_kind u_M_value u_M_read u_M_acts u_M_act u_M_waits u_M_wait u_M_held u_M_place u_M_heap u_M_clocks u_M_counts u_M_talking u_M_most u_M_hasA u_M_hasB u_M_talks u_M_big a_M_refused (-2) v5 hc6) (zgV zw_223 zw_224 zw_225 zw_5 zw_226) rfl hd_X11_refuse ⟨rfl, rfl⟩ ⟨Nat.le_of_ble_eq_true rfl, Nat.le_of_ble_eq_true rfl⟩ 0 11 rfl rfl rfl hl.1 rfl (Nat.le_of_ble_eq_true rfl) dX11_put_11 hP hD hS hA hK hG (isC := [0, 2]) rfl (by decide +kernel) rfl ⟨Nat.zero_le _, Nat.zero_le _⟩ (pl := [some 0, none, some 1]) (nw := 3) rfl (by decide +kernel) (w2 := (ws_X11_put cI cJ cZ cA q_M q_M_now q_M_refused u_M_images u_M_kept u_M_text u_M_size u_M_sign u_M_manyAbove u_M_manyBelow u_M_above u_M_below u_M_at u_M_begin u_M_kind u_M_value u_M_read u_M_acts u_M_act u_M_waits u_M_wait u_M_held u_M_place u_M_heap u_M_clocks u_M_counts u_M_talking u_M_most u_M_hasA u_M_hasB u_M_talks u_M_big a_M_now v5.2)) rfl (st1 := [.int v5.1]) rfl (fun H locs hP hD hS => ?_)
    exact hret v5.1 a_M_now v5.2 hg _ _ _ _ hP hS dX11_put_14

/-! SpokenClockModel.person(II)I -/
abbrev ws_X11_person (cI cJ cZ cA : ClassId) (q_M q_M_refused q_M_now : Nat) (u_M_images : Value) (u_M_kept : Value) (u_M_text : Value) (u_M_size : Value) (u_M_sign : Value) (u_M_manyAbove : Value) (u_M_manyBelow : Value) (u_M_above : Value) (u_M_below : Value) (u_M_at : Value) (u_M_begin : Value) (u_M_kind : Value) (u_M_value : Value) (u_M_read : Value) (u_M_acts : Value) (u_M_act : Value) (u_M_waits : Value) (u_M_wait : Value) (u_M_held : Value) (u_M_place : Value) (u_M_heap : Value) (u_M_clocks : Value) (u_M_counts : Value) (u_M_talking : Value) (u_M_most : Value) (u_M_hasA : Value) (u_M_hasB : Value) (u_M_talks : Value) (u_M_big : Value) (a_M_refused : Nat → Int32) (a_M_now : Nat → Int32) : va_W := [(q_M, .inr (11, [.ref q_M_now, u_M_images, u_M_kept, u_M_text, u_M_size, u_M_sign, u_M_manyAbove, u_M_manyBelow, u_M_above, u_M_below, .ref q_M_refused, u_M_at, u_M_begin, u_M_kind, u_M_value, u_M_read, u_M_acts, u_M_act, u_M_waits, u_M_wait, u_M_held, u_M_place, u_M_heap, u_M_clocks, u_M_counts, u_M_talking, u_M_most, u_M_hasA, u_M_hasB, u_M_talks, u_M_big])), (q_M_refused, .inl (cI, 3, .inl a_M_refused)), (q_M_now, .inl (cI, 155, .inl a_M_now))]
abbrev rm_X11_person : Room := { frames := 1, cells := 0, slots := 0, locals := 25 }
def g_X11_person_22 (x1 : Int32) (x2 : Int32) (a_M_refused : Nat → Int32) (a_M_now : Nat → Int32) : Option (Int32 × (Nat → Int32) × (Nat → Int32)) :=
  (g_X11_refuse (-2) a_M_refused).bind fun v3 =>
  some (v3.1, v3.2, a_M_now)
def g_X11_person (x1 : Int32) (x2 : Int32) (a_M_refused : Nat → Int32) (a_M_now : Nat → Int32) : Option (Int32 × (Nat → Int32) × (Nat → Int32)) :=
  (g_X11_in x1.toInt64 (0 : Int64) (5 : Int64)).bind fun v1 =>
  if v1 = 0 then (
    g_X11_person_22 x1 x2 a_M_refused a_M_now
  ) else (
    (g_X11_in x2.toInt64 (0 : Int64) (1 : Int64)).bind fun v5 =>
    if v5 = 0 then (
      g_X11_person_22 x1 x2 a_M_refused a_M_now
    ) else (
      if (a_M_now 3) = 5 then (
        (g_X11_refuse (-4) a_M_refused).bind fun v9 =>
        some (v9.1, v9.2, a_M_now)
      ) else (
        if (13 + (a_M_now 3)) < 0 ∨ 155 ≤ (13 + (a_M_now 3)).toNatClampNeg then none else
        if (18 + (a_M_now 3)) < 0 ∨ 155 ≤ (18 + (a_M_now 3)).toNatClampNeg then none else
        some (a_M_now 3, a_M_refused, upd (upd (upd a_M_now ((13 + (a_M_now 3)).toNatClampNeg) x1) ((18 + (a_M_now 3)).toNatClampNeg) x2) 3 (((upd (upd a_M_now ((13 + (a_M_now 3)).toNatClampNeg) x1) ((18 + (a_M_now 3)).toNatClampNeg) x2) 3) + 1))
      )
    )
  )
theorem hd_X11_person : yX11_person.cls = RX11 ∧ yX11_person.cls ≠ "java/lang/invoke/MethodHandle" ∧ yX11_person.cls ≠ "java/lang/invoke/VarHandle" ∧ (parseMethodDescriptor yX11_person.desc).map (fun d => d.parameters.length) = some 2 := by decide +kernel
set_option maxHeartbeats 4000000 in
set_option maxRecDepth 100000 in
theorem c_X11_person (l : Launch) (D : va_G) (cI cJ cZ cA : ClassId) (ga : Nat → Nat) (q_M q_M_refused q_M_now : Nat) (u_M_images : Value) (u_M_kept : Value) (u_M_text : Value) (u_M_size : Value) (u_M_sign : Value) (u_M_manyAbove : Value) (u_M_manyBelow : Value) (u_M_above : Value) (u_M_below : Value) (u_M_at : Value) (u_M_begin : Value) (u_M_kind : Value) (u_M_value : Value) (u_M_read : Value) (u_M_acts : Value) (u_M_act : Value) (u_M_waits : Value) (u_M_wait : Value) (u_M_held : Value) (u_M_place : Value) (u_M_heap : Value) (u_M_clocks : Value) (u_M_counts : Value) (u_M_talking : Value) (u_M_most : Value) (u_M_hasA : Value) (u_M_hasB : Value) (u_M_talks : Value) (u_M_big : Value) (a_M_refused : Nat → Int32) (a_M_now : Nat → Int32) (x1 : Int32) (x2 : Int32) (o : Int32 × (Nat → Int32) × (Nat → Int32)) (hg : g_X11_person x1 x2 a_M_refused a_M_now = some o) : zM l yX11_person (Cond.code yX11_person cX11_person 4 (some .int) :: wsL_law) rm_X11_person D (zTy cI cJ cZ cA) ga [.ref q_M, .int x1, .int x2] (ws_X11_person cI cJ cZ cA q_M q_M_refused q_M_now u_M_images u_M_kept u_M_text u_M_size u_M_sign u_M_manyAbove u_M_manyBelow u_M_above u_M_below u_M_at u_M_begin u_M_kind u_M_value u_M_read u_M_acts u_M_act u_M_waits u_M_wait u_M_held u_M_place u_M_heap u_M_clocks u_M_counts u_M_talking u_M_most u_M_hasA u_M_hasB u_M_talks u_M_big a_M_refused a_M_now) (ws_X11_person cI cJ cZ cA q_M q_M_refused q_M_now u_M_images u_M_kept u_M_text u_M_size u_M_sign u_M_manyAbove u_M_manyBelow u_M_above u_M_below u_M_at u_M_begin u_M_kind u_M_value u_M_read u_M_acts u_M_act u_M_waits u_M_wait u_M_held u_M_place u_M_heap u_M_clocks u_M_counts u_M_talking u_M_most u_M_hasA u_M_hasB u_M_talks u_M_big o.2.1 o.2.2) (some (.int o.1)) := by
  refine zenterI (own := RX11) (by decide) rfl rfl (Nat.le_of_ble_eq_true rfl) ?_
  intro p e s m args below meth c A ls Q S hA hK hG hl hP hD hS hret0
  have hx := S.1
  have hb := S.2.1
  have ht : ∀ w, w ∈ wsL_law → w.before args s = true := fun w h => S.2.2.2.2 w (List.mem_cons_of_mem _ h)
  have hret : ∀ (r9 : Int32) (a_M_refused : Nat → Int32) (a_M_now : Nat → Int32), (some (r9, a_M_refused, a_M_now) : Option (Int32 × (Nat → Int32) × (Nat → Int32))) = some o → ∀ (H : Heap) (locs : List Loc) (pc : Nat) (ls : Array Slot), va_P D vwCl (ws_X11_person cI cJ cZ cA q_M q_M_refused q_M_now u_M_images u_M_kept u_M_text u_M_size u_M_sign u_M_manyAbove u_M_manyBelow u_M_above u_M_below u_M_at u_M_begin u_M_kind u_M_value u_M_read u_M_acts u_M_act u_M_waits u_M_wait u_M_held u_M_place u_M_heap u_M_clocks u_M_counts u_M_talking u_M_most u_M_hasA u_M_hasB u_M_talks u_M_big a_M_refused a_M_now) H → va_S A s.heap H locs → decode cX11_person pc = .ok (.ireturn, 1) → W p l e rm_X11_person s m args below meth c H locs 0 0 Q (F0 m pc ls [.int r9]) := by
    intro r9 a_M_refused a_M_now he; cases he; exact hret0
  have hl : lv_has ls 4 [(0, .ref q_M), (1, .int x1), (2, .int x2)] := hl
  have B22 : ∀ (a_M_refused : Nat → Int32) (a_M_now : Nat → Int32) (H : Heap) (locs : List Loc) (ls : Array Slot) (hl : lv_has ls 4 [(0, .ref q_M)]) (hP : va_P D vwCl (ws_X11_person cI cJ cZ cA q_M q_M_refused q_M_now u_M_images u_M_kept u_M_text u_M_size u_M_sign u_M_manyAbove u_M_manyBelow u_M_above u_M_below u_M_at u_M_begin u_M_kind u_M_value u_M_read u_M_acts u_M_act u_M_waits u_M_wait u_M_held u_M_place u_M_heap u_M_clocks u_M_counts u_M_talking u_M_most u_M_hasA u_M_hasB u_M_talks u_M_big a_M_refused a_M_now) H) (hD : va_D A (ws_X11_person cI cJ cZ cA q_M q_M_refused q_M_now u_M_images u_M_kept u_M_text u_M_size u_M_sign u_M_manyAbove u_M_manyBelow u_M_above u_M_below u_M_at u_M_begin u_M_kind u_M_value u_M_read u_M_acts u_M_act u_M_waits u_M_wait u_M_held u_M_place u_M_heap u_M_clocks u_M_counts u_M_talking u_M_most u_M_hasA u_M_hasB u_M_talks u_M_big a_M_refused a_M_now)) (hS : va_S A s.heap H locs), g_X11_person_22 x1 x2 a_M_refused a_M_now = some o → W p l e rm_X11_person s m args below meth c H locs 0 0 Q (F0 m 22 ls []) := by
    intro  a_M_refused a_M_now H locs ls hl hP hD hS hg
    refine lv_aload_n hx hb dX11_person_22 rfl (lv_at hl 0 rfl) ?_
    refine lv_bipush (v := (-2)) hx hb dX11_person_23 (by decide) ?_
    obtain ⟨v3, hc4, hg⟩ := zbd hg
    refine zcallV (rest := []) S (c_X11_refuse l D cI cJ cZ cA ga q_M q_M_refused (.ref q_M_now) u_M_images u_M_kept u_M_text u_M_size u_M_sign u_M_manyAbove u_M_manyBelow u_M_above u_M_below u_M_at u_M_begin u_M_kind u_M_value u_M_read u_M_acts u_M_act u_M_waits u_M_wait u_M_held u_M_place u_M_heap u_M_clocks u_M_counts u_M_talking u_M_most u_M_hasA u_M_hasB u_M_talks u_M_big a_M_refused (-2) v3 hc4) (zgV zw_223 zw_224 zw_225 zw_5 zw_226) rfl hd_X11_refuse ⟨rfl, rfl⟩ ⟨Nat.le_of_ble_eq_true rfl, Nat.le_of_ble_eq_true rfl⟩ 0 11 rfl rfl rfl hl.1 rfl (Nat.le_of_ble_eq_true rfl) dX11_person_25 hP hD hS hA hK hG (isC := [0, 1]) rfl (by decide +kernel) rfl ⟨Nat.zero_le _, Nat.zero_le _⟩ (pl := [some 0, some 1, none]) (nw := 3) rfl (by decide +kernel) (w2 := (ws_X11_person cI cJ cZ cA q_M q_M_refused q_M_now u_M_images u_M_kept u_M_text u_M_size u_M_sign u_M_manyAbove u_M_manyBelow u_M_above u_M_below u_M_at u_M_begin u_M_kind u_M_value u_M_read u_M_acts u_M_act u_M_waits u_M_wait u_M_held u_M_place u_M_heap u_M_clocks u_M_counts u_M_talking u_M_most u_M_hasA u_M_hasB u_M_talks u_M_big v3.2 a_M_now)) rfl (st1 := [.int v3.1]) rfl (fun H locs hP hD hS => ?_)
    exact hret v3.1 v3.2 a_M_now hg _ _ _ _ hP hS dX11_person_28
  refine lv_iload_n hx hb dX11_person_0 rfl (lv_at hl 1 rfl) ?_
  refine lv_i2l hx hb dX11_person_1 rfl ?_
  refine lv_lconst (v := 0) hx hb dX11_person_2 (by decide) ?_
  refine lv_ldc2 (v := 5) hx hb S.2.2.2.1 (ht _ zw_253) dX11_person_3 ?_
  obtain ⟨v1, hc2, hg⟩ := zbd hg
  refine zcallS (rest := []) S (c_X11_in l D cI cJ cZ cA ga x1.toInt64 (0 : Int64) (5 : Int64) v1 hc2) (zgS zw_220 zw_221 zw_5 zw_222) rfl hd_X11_in ⟨rfl, rfl⟩ ⟨Nat.le_of_ble_eq_true rfl, Nat.le_of_ble_eq_true rfl⟩ rfl hl.1 rfl (Nat.le_of_ble_eq_true rfl) dX11_person_6 hP hD hS hA hK hG (isC := []) rfl (by decide +kernel) rfl ⟨Nat.zero_le _, Nat.zero_le _⟩ (pl := [none, none, none]) (nw := 3) rfl (by decide +kernel) (w2 := (ws_X11_person cI cJ cZ cA q_M q_M_refused q_M_now u_M_images u_M_kept u_M_text u_M_size u_M_sign u_M_manyAbove u_M_manyBelow u_M_above u_M_below u_M_at u_M_begin u_M_kind u_M_value u_M_read u_M_acts u_M_act u_M_waits u_M_wait u_M_held u_M_place u_M_heap u_M_clocks u_M_counts u_M_talking u_M_most u_M_hasA u_M_hasB u_M_talks u_M_big a_M_refused a_M_now)) rfl (st1 := [.int v1]) rfl (fun H locs hP hD hS => ?_)
  refine lv_if_eq (tgt := 22) hx hb dX11_person_9 (by decide) (fun h9 => ?_) (fun h9 => ?_)
  · have hg := zp hg h9
    exact B22 a_M_refused a_M_now _ _ _ (lv_sub hl [0] rfl) hP hD hS hg
  · have hg := zn hg h9
    refine lv_iload_n hx hb dX11_person_12 rfl (lv_at hl 2 rfl) ?_
    refine lv_i2l hx hb dX11_person_13 rfl ?_
    refine lv_lconst (v := 0) hx hb dX11_person_14 (by decide) ?_
    refine lv_lconst (v := 1) hx hb dX11_person_15 (by decide) ?_
    obtain ⟨v5, hc6, hg⟩ := zbd hg
    refine zcallS (rest := []) S (c_X11_in l D cI cJ cZ cA ga x2.toInt64 (0 : Int64) (1 : Int64) v5 hc6) (zgS zw_220 zw_221 zw_5 zw_222) rfl hd_X11_in ⟨rfl, rfl⟩ ⟨Nat.le_of_ble_eq_true rfl, Nat.le_of_ble_eq_true rfl⟩ rfl hl.1 rfl (Nat.le_of_ble_eq_true rfl) dX11_person_16 hP hD hS hA hK hG (isC := []) rfl (by decide +kernel) rfl ⟨Nat.zero_le _, Nat.zero_le _⟩ (pl := [none, none, none]) (nw := 3) rfl (by decide +kernel) (w2 := (ws_X11_person cI cJ cZ cA q_M q_M_refused q_M_now u_M_images u_M_kept u_M_text u_M_size u_M_sign u_M_manyAbove u_M_manyBelow u_M_above u_M_below u_M_at u_M_begin u_M_kind u_M_value u_M_read u_M_acts u_M_act u_M_waits u_M_wait u_M_held u_M_place u_M_heap u_M_clocks u_M_counts u_M_talking u_M_most u_M_hasA u_M_hasB u_M_talks u_M_big a_M_refused a_M_now)) rfl (st1 := [.int v5]) rfl (fun H locs hP hD hS => ?_)
    refine lv_if_ne (tgt := 29) hx hb dX11_person_19 (by decide) (fun h19 => ?_) (fun h19 => ?_)
    · have hg := zn hg h19
      refine lv_aload_n hx hb dX11_person_29 rfl (lv_at hl 0 rfl) ?_
      refine zget (C := RX11) (T := TX11) (N := 31) S hK hP 0 rfl rfl 0 (Nat.le_of_ble_eq_true rfl) zf_11 zw_149 rfl dX11_person_30 ?_
      refine lv_iconst (v := 3) hx hb dX11_person_33 (by decide) ?_
      refine ziald hx hb hK hP 2 0 rfl rfl (j := 3) (zin (by decide)) (by decide) dX11_person_34 ?_
      refine lv_iconst (v := 5) hx hb dX11_person_35 (by decide) ?_
      refine lv_icmp_ne (tgt := 46) hx hb dX11_person_36 (by decide) (fun h36 => ?_) (fun h36 => ?_)
      · have hg := zn hg h36
        refine lv_aload_n hx hb dX11_person_46 rfl (lv_at hl 0 rfl) ?_
        refine zget (C := RX11) (T := TX11) (N := 31) S hK hP 0 rfl rfl 0 (Nat.le_of_ble_eq_true rfl) zf_11 zw_149 rfl dX11_person_47 ?_
        refine lv_iconst (v := 3) hx hb dX11_person_50 (by decide) ?_
        refine ziald hx hb hK hP 2 0 rfl rfl (j := 3) (zin (by decide)) (by decide) dX11_person_51 ?_
        refine lv_istore_n (lv' := [(3, .int (a_M_now 3)), (0, .ref q_M), (1, .int x1), (2, .int x2)]) hx hb dX11_person_52 rfl hl (by decide) rfl (fun ls hl => ?_)
        refine lv_aload_n hx hb dX11_person_53 rfl (lv_at hl 1 rfl) ?_
        refine zget (C := RX11) (T := TX11) (N := 31) S hK hP 0 rfl rfl 0 (Nat.le_of_ble_eq_true rfl) zf_11 zw_149 rfl dX11_person_54 ?_
        refine lv_bipush (v := 13) hx hb dX11_person_57 (by decide) ?_
        refine lv_iload_n hx hb dX11_person_59 rfl (lv_at hl 0 rfl) ?_
        refine lv_iadd hx hb dX11_person_60 ?_
        refine lv_iload_n hx hb dX11_person_61 rfl (lv_at hl 2 rfl) ?_
        obtain ⟨h7, hg⟩ := zck hg
        refine ziast hx hb hK hP hD hS 2 0 rfl rfl (j := ((13 + (a_M_now 3)).toNatClampNeg)) h7 rfl dX11_person_62 (w2 := (ws_X11_person cI cJ cZ cA q_M q_M_refused q_M_now u_M_images u_M_kept u_M_text u_M_size u_M_sign u_M_manyAbove u_M_manyBelow u_M_above u_M_below u_M_at u_M_begin u_M_kind u_M_value u_M_read u_M_acts u_M_act u_M_waits u_M_wait u_M_held u_M_place u_M_heap u_M_clocks u_M_counts u_M_talking u_M_most u_M_hasA u_M_hasB u_M_talks u_M_big a_M_refused (upd a_M_now ((13 + (a_M_now 3)).toNatClampNeg) x1))) rfl (fun H locs hP hD hS => ?_)
        refine lv_aload_n hx hb dX11_person_63 rfl (lv_at hl 1 rfl) ?_
        refine zget (C := RX11) (T := TX11) (N := 31) S hK hP 0 rfl rfl 0 (Nat.le_of_ble_eq_true rfl) zf_11 zw_149 rfl dX11_person_64 ?_
        refine lv_bipush (v := 18) hx hb dX11_person_67 (by decide) ?_
        refine lv_iload_n hx hb dX11_person_69 rfl (lv_at hl 0 rfl) ?_
        refine lv_iadd hx hb dX11_person_70 ?_
        refine lv_iload_n hx hb dX11_person_71 rfl (lv_at hl 3 rfl) ?_
        obtain ⟨h8, hg⟩ := zck hg
        refine ziast hx hb hK hP hD hS 2 0 rfl rfl (j := ((18 + (a_M_now 3)).toNatClampNeg)) h8 rfl dX11_person_72 (w2 := (ws_X11_person cI cJ cZ cA q_M q_M_refused q_M_now u_M_images u_M_kept u_M_text u_M_size u_M_sign u_M_manyAbove u_M_manyBelow u_M_above u_M_below u_M_at u_M_begin u_M_kind u_M_value u_M_read u_M_acts u_M_act u_M_waits u_M_wait u_M_held u_M_place u_M_heap u_M_clocks u_M_counts u_M_talking u_M_most u_M_hasA u_M_hasB u_M_talks u_M_big a_M_refused (upd (upd a_M_now ((13 + (a_M_now 3)).toNatClampNeg) x1) ((18 + (a_M_now 3)).toNatClampNeg) x2))) rfl (fun H locs hP hD hS => ?_)
        refine lv_aload_n hx hb dX11_person_73 rfl (lv_at hl 1 rfl) ?_
        refine zget (C := RX11) (T := TX11) (N := 31) S hK hP 0 rfl rfl 0 (Nat.le_of_ble_eq_true rfl) zf_11 zw_149 rfl dX11_person_74 ?_
        refine lv_iconst (v := 3) hx hb dX11_person_77 (by decide) ?_
        refine lv_dup2_11 hx hb dX11_person_78 rfl rfl ?_
        refine ziald hx hb hK hP 2 0 rfl rfl (j := 3) (zin (by decide)) (by decide) dX11_person_79 ?_
        refine lv_iconst (v := 1) hx hb dX11_person_80 (by decide) ?_
        refine lv_iadd hx hb dX11_person_81 ?_
        refine ziast hx hb hK hP hD hS 2 0 rfl rfl (j := 3) (zin (by decide)) (by decide) dX11_person_82 (w2 := (ws_X11_person cI cJ cZ cA q_M q_M_refused q_M_now u_M_images u_M_kept u_M_text u_M_size u_M_sign u_M_manyAbove u_M_manyBelow u_M_above u_M_below u_M_at u_M_begin u_M_kind u_M_value u_M_read u_M_acts u_M_act u_M_waits u_M_wait u_M_held u_M_place u_M_heap u_M_clocks u_M_counts u_M_talking u_M_most u_M_hasA u_M_hasB u_M_talks u_M_big a_M_refused (upd (upd (upd a_M_now ((13 + (a_M_now 3)).toNatClampNeg) x1) ((18 + (a_M_now 3)).toNatClampNeg) x2) 3 (((upd (upd a_M_now ((13 + (a_M_now 3)).toNatClampNeg) x1) ((18 + (a_M_now 3)).toNatClampNeg) x2) 3) + 1)))) rfl (fun H locs hP hD hS => ?_)
        refine lv_iload_n hx hb dX11_person_83 rfl (lv_at hl 0 rfl) ?_
        exact hret (a_M_now 3) a_M_refused (upd (upd (upd a_M_now ((13 + (a_M_now 3)).toNatClampNeg) x1) ((18 + (a_M_now 3)).toNatClampNeg) x2) 3 (((upd (upd a_M_now ((13 + (a_M_now 3)).toNatClampNeg) x1) ((18 + (a_M_now 3)).toNatClampNeg) x2) 3) + 1)) hg _ _ _ _ hP hS dX11_person_84
      · have hg := zp hg h36
        refine lv_aload_n hx hb dX11_person_39 rfl (lv_at hl 0 rfl) ?_
        refine lv_bipush (v := (-4)) hx hb dX11_person_40 (by decide) ?_
        obtain ⟨v9, hc10, hg⟩ := zbd hg
        refine zcallV (rest := []) S (c_X11_refuse l D cI cJ cZ cA ga q_M q_M_refused (.ref q_M_now) u_M_images u_M_kept u_M_text u_M_size u_M_sign u_M_manyAbove u_M_manyBelow u_M_above u_M_below u_M_at u_M_begin u_M_kind u_M_value u_M_read u_M_acts u_M_act u_M_waits u_M_wait u_M_held u_M_place u_M_heap u_M_clocks u_M_counts u_M_talking u_M_most u_M_hasA u_M_hasB u_M_talks u_M_big a_M_refused (-4) v9 hc10) (zgV zw_223 zw_224 zw_225 zw_5 zw_226) rfl hd_X11_refuse ⟨rfl, rfl⟩ ⟨Nat.le_of_ble_eq_true rfl, Nat.le_of_ble_eq_true rfl⟩ 0 11 rfl rfl rfl hl.1 rfl (Nat.le_of_ble_eq_true rfl) dX11_person_42 hP hD hS hA hK hG (isC := [0, 1]) rfl (by decide +kernel) rfl ⟨Nat.zero_le _, Nat.zero_le _⟩ (pl := [some 0, some 1, none]) (nw := 3) rfl (by decide +kernel) (w2 := (ws_X11_person cI cJ cZ cA q_M q_M_refused q_M_now u_M_images u_M_kept u_M_text u_M_size u_M_sign u_M_manyAbove u_M_manyBelow u_M_above u_M_below u_M_at u_M_begin u_M_kind u_M_value u_M_read u_M_acts u_M_act u_M_waits u_M_wait u_M_held u_M_place u_M_heap u_M_clocks u_M_counts u_M_talking u_M_most u_M_hasA u_M_hasB u_M_talks u_M_big v9.2 a_M_now)) rfl (st1 := [.int v9.1]) rfl (fun H locs hP hD hS => ?_)
        exact hret v9.1 v9.2 a_M_now hg _ _ _ _ hP hS dX11_person_45
    · have hg := zp hg h19
      exact B22 a_M_refused a_M_now _ _ _ (lv_sub hl [0] rfl) hP hD hS hg

/-! SpokenClockModel.talk(III)I -/
abbrev ws_X11_talk (cI cJ cZ cA : ClassId) (q_M q_M_now q_M_refused : Nat) (u_M_images : Value) (u_M_kept : Value) (u_M_text : Value) (u_M_size : Value) (u_M_sign : Value) (u_M_manyAbove : Value) (u_M_manyBelow : Value) (u_M_above : Value) (u_M_below : Value) (u_M_at : Value) (u_M_begin : Value) (u_M_kind : Value) (u_M_value : Value) (u_M_read : Value) (u_M_acts : Value) (u_M_act : Value) (u_M_waits : Value) (u_M_wait : Value) (u_M_held : Value) (u_M_place : Value) (u_M_heap : Value) (u_M_clocks : Value) (u_M_counts : Value) (u_M_talking : Value) (u_M_most : Value) (u_M_hasA : Value) (u_M_hasB : Value) (u_M_talks : Value) (u_M_big : Value) (a_M_now : Nat → Int32) (a_M_refused : Nat → Int32) : va_W := [(q_M, .inr (11, [.ref q_M_now, u_M_images, u_M_kept, u_M_text, u_M_size, u_M_sign, u_M_manyAbove, u_M_manyBelow, u_M_above, u_M_below, .ref q_M_refused, u_M_at, u_M_begin, u_M_kind, u_M_value, u_M_read, u_M_acts, u_M_act, u_M_waits, u_M_wait, u_M_held, u_M_place, u_M_heap, u_M_clocks, u_M_counts, u_M_talking, u_M_most, u_M_hasA, u_M_hasB, u_M_talks, u_M_big])), (q_M_now, .inl (cI, 155, .inl a_M_now)), (q_M_refused, .inl (cI, 3, .inl a_M_refused))]
abbrev rm_X11_talk : Room := { frames := 1, cells := 0, slots := 0, locals := 25 }
def g_X11_talk_34 (x1 : Int32) (x2 : Int32) (x3 : Int32) (a_M_now : Nat → Int32) (a_M_refused : Nat → Int32) : Option (Int32 × (Nat → Int32) × (Nat → Int32)) :=
  (g_X11_refuse (-2) a_M_refused).bind fun v3 =>
  some (v3.1, a_M_now, v3.2)
def g_X11_talk (x1 : Int32) (x2 : Int32) (x3 : Int32) (a_M_now : Nat → Int32) (a_M_refused : Nat → Int32) : Option (Int32 × (Nat → Int32) × (Nat → Int32)) :=
  (g_X11_in x1.toInt64 (0 : Int64) (((a_M_now 3) - 1).toInt64)).bind fun v1 =>
  if v1 = 0 then (
    g_X11_talk_34 x1 x2 x3 a_M_now a_M_refused
  ) else (
    if x2 < 0 then (
      g_X11_talk_34 x1 x2 x3 a_M_now a_M_refused
    ) else (
      if x3 ≤ x2 then (
        g_X11_talk_34 x1 x2 x3 a_M_now a_M_refused
      ) else (
        if x3 ≤ 240 then (
          if (a_M_now 4) = 16 then (
            (g_X11_refuse (-4) a_M_refused).bind fun v8 =>
            some (v8.1, a_M_now, v8.2)
          ) else (
            if (23 + (a_M_now 4)) < 0 ∨ 155 ≤ (23 + (a_M_now 4)).toNatClampNeg then none else
            if (39 + (a_M_now 4)) < 0 ∨ 155 ≤ (39 + (a_M_now 4)).toNatClampNeg then none else
            if (55 + (a_M_now 4)) < 0 ∨ 155 ≤ (55 + (a_M_now 4)).toNatClampNeg then none else
            some (a_M_now 4, upd (upd (upd (upd a_M_now ((23 + (a_M_now 4)).toNatClampNeg) x1) ((39 + (a_M_now 4)).toNatClampNeg) x2) ((55 + (a_M_now 4)).toNatClampNeg) x3) 4 (((upd (upd (upd a_M_now ((23 + (a_M_now 4)).toNatClampNeg) x1) ((39 + (a_M_now 4)).toNatClampNeg) x2) ((55 + (a_M_now 4)).toNatClampNeg) x3) 4) + 1), a_M_refused)
          )
        ) else (
          g_X11_talk_34 x1 x2 x3 a_M_now a_M_refused
        )
      )
    )
  )
theorem hd_X11_talk : yX11_talk.cls = RX11 ∧ yX11_talk.cls ≠ "java/lang/invoke/MethodHandle" ∧ yX11_talk.cls ≠ "java/lang/invoke/VarHandle" ∧ (parseMethodDescriptor yX11_talk.desc).map (fun d => d.parameters.length) = some 3 := by decide +kernel
set_option maxHeartbeats 4000000 in
set_option maxRecDepth 100000 in
theorem c_X11_talk (l : Launch) (D : va_G) (cI cJ cZ cA : ClassId) (ga : Nat → Nat) (q_M q_M_now q_M_refused : Nat) (u_M_images : Value) (u_M_kept : Value) (u_M_text : Value) (u_M_size : Value) (u_M_sign : Value) (u_M_manyAbove : Value) (u_M_manyBelow : Value) (u_M_above : Value) (u_M_below : Value) (u_M_at : Value) (u_M_begin : Value) (u_M_kind : Value) (u_M_value : Value) (u_M_read : Value) (u_M_acts : Value) (u_M_act : Value) (u_M_waits : Value) (u_M_wait : Value) (u_M_held : Value) (u_M_place : Value) (u_M_heap : Value) (u_M_clocks : Value) (u_M_counts : Value) (u_M_talking : Value) (u_M_most : Value) (u_M_hasA : Value) (u_M_hasB : Value) (u_M_talks : Value) (u_M_big : Value) (a_M_now : Nat → Int32) (a_M_refused : Nat → Int32) (x1 : Int32) (x2 : Int32) (x3 : Int32) (o : Int32 × (Nat → Int32) × (Nat → Int32)) (hg : g_X11_talk x1 x2 x3 a_M_now a_M_refused = some o) : zM l yX11_talk (Cond.code yX11_talk cX11_talk 5 (some .int) :: wsL_law) rm_X11_talk D (zTy cI cJ cZ cA) ga [.ref q_M, .int x1, .int x2, .int x3] (ws_X11_talk cI cJ cZ cA q_M q_M_now q_M_refused u_M_images u_M_kept u_M_text u_M_size u_M_sign u_M_manyAbove u_M_manyBelow u_M_above u_M_below u_M_at u_M_begin u_M_kind u_M_value u_M_read u_M_acts u_M_act u_M_waits u_M_wait u_M_held u_M_place u_M_heap u_M_clocks u_M_counts u_M_talking u_M_most u_M_hasA u_M_hasB u_M_talks u_M_big a_M_now a_M_refused) (ws_X11_talk cI cJ cZ cA q_M q_M_now q_M_refused u_M_images u_M_kept u_M_text u_M_size u_M_sign u_M_manyAbove u_M_manyBelow u_M_above u_M_below u_M_at u_M_begin u_M_kind u_M_value u_M_read u_M_acts u_M_act u_M_waits u_M_wait u_M_held u_M_place u_M_heap u_M_clocks u_M_counts u_M_talking u_M_most u_M_hasA u_M_hasB u_M_talks u_M_big o.2.1 o.2.2) (some (.int o.1)) := by
  refine zenterI (own := RX11) (by decide) rfl rfl (Nat.le_of_ble_eq_true rfl) ?_
  intro p e s m args below meth c A ls Q S hA hK hG hl hP hD hS hret0
  have hx := S.1
  have hb := S.2.1
  have ht : ∀ w, w ∈ wsL_law → w.before args s = true := fun w h => S.2.2.2.2 w (List.mem_cons_of_mem _ h)
  have hret : ∀ (r9 : Int32) (a_M_now : Nat → Int32) (a_M_refused : Nat → Int32), (some (r9, a_M_now, a_M_refused) : Option (Int32 × (Nat → Int32) × (Nat → Int32))) = some o → ∀ (H : Heap) (locs : List Loc) (pc : Nat) (ls : Array Slot), va_P D vwCl (ws_X11_talk cI cJ cZ cA q_M q_M_now q_M_refused u_M_images u_M_kept u_M_text u_M_size u_M_sign u_M_manyAbove u_M_manyBelow u_M_above u_M_below u_M_at u_M_begin u_M_kind u_M_value u_M_read u_M_acts u_M_act u_M_waits u_M_wait u_M_held u_M_place u_M_heap u_M_clocks u_M_counts u_M_talking u_M_most u_M_hasA u_M_hasB u_M_talks u_M_big a_M_now a_M_refused) H → va_S A s.heap H locs → decode cX11_talk pc = .ok (.ireturn, 1) → W p l e rm_X11_talk s m args below meth c H locs 0 0 Q (F0 m pc ls [.int r9]) := by
    intro r9 a_M_now a_M_refused he; cases he; exact hret0
  have hl : lv_has ls 5 [(0, .ref q_M), (1, .int x1), (2, .int x2), (3, .int x3)] := hl
  have B34 : ∀ (a_M_now : Nat → Int32) (a_M_refused : Nat → Int32) (H : Heap) (locs : List Loc) (ls : Array Slot) (hl : lv_has ls 5 [(0, .ref q_M)]) (hP : va_P D vwCl (ws_X11_talk cI cJ cZ cA q_M q_M_now q_M_refused u_M_images u_M_kept u_M_text u_M_size u_M_sign u_M_manyAbove u_M_manyBelow u_M_above u_M_below u_M_at u_M_begin u_M_kind u_M_value u_M_read u_M_acts u_M_act u_M_waits u_M_wait u_M_held u_M_place u_M_heap u_M_clocks u_M_counts u_M_talking u_M_most u_M_hasA u_M_hasB u_M_talks u_M_big a_M_now a_M_refused) H) (hD : va_D A (ws_X11_talk cI cJ cZ cA q_M q_M_now q_M_refused u_M_images u_M_kept u_M_text u_M_size u_M_sign u_M_manyAbove u_M_manyBelow u_M_above u_M_below u_M_at u_M_begin u_M_kind u_M_value u_M_read u_M_acts u_M_act u_M_waits u_M_wait u_M_held u_M_place u_M_heap u_M_clocks u_M_counts u_M_talking u_M_most u_M_hasA u_M_hasB u_M_talks u_M_big a_M_now a_M_refused)) (hS : va_S A s.heap H locs), g_X11_talk_34 x1 x2 x3 a_M_now a_M_refused = some o → W p l e rm_X11_talk s m args below meth c H locs 0 0 Q (F0 m 34 ls []) := by
    intro  a_M_now a_M_refused H locs ls hl hP hD hS hg
    refine lv_aload_n hx hb dX11_talk_34 rfl (lv_at hl 0 rfl) ?_
    refine lv_bipush (v := (-2)) hx hb dX11_talk_35 (by decide) ?_
    obtain ⟨v3, hc4, hg⟩ := zbd hg
    refine zcallV (rest := []) S (c_X11_refuse l D cI cJ cZ cA ga q_M q_M_refused (.ref q_M_now) u_M_images u_M_kept u_M_text u_M_size u_M_sign u_M_manyAbove u_M_manyBelow u_M_above u_M_below u_M_at u_M_begin u_M_kind u_M_value u_M_read u_M_acts u_M_act u_M_waits u_M_wait u_M_held u_M_place u_M_heap u_M_clocks u_M_counts u_M_talking u_M_most u_M_hasA u_M_hasB u_M_talks u_M_big a_M_refused (-2) v3 hc4) (zgV zw_223 zw_224 zw_225 zw_5 zw_226) rfl hd_X11_refuse ⟨rfl, rfl⟩ ⟨Nat.le_of_ble_eq_true rfl, Nat.le_of_ble_eq_true rfl⟩ 0 11 rfl rfl rfl hl.1 rfl (Nat.le_of_ble_eq_true rfl) dX11_talk_37 hP hD hS hA hK hG (isC := [0, 2]) rfl (by decide +kernel) rfl ⟨Nat.zero_le _, Nat.zero_le _⟩ (pl := [some 0, none, some 1]) (nw := 3) rfl (by decide +kernel) (w2 := (ws_X11_talk cI cJ cZ cA q_M q_M_now q_M_refused u_M_images u_M_kept u_M_text u_M_size u_M_sign u_M_manyAbove u_M_manyBelow u_M_above u_M_below u_M_at u_M_begin u_M_kind u_M_value u_M_read u_M_acts u_M_act u_M_waits u_M_wait u_M_held u_M_place u_M_heap u_M_clocks u_M_counts u_M_talking u_M_most u_M_hasA u_M_hasB u_M_talks u_M_big a_M_now v3.2)) rfl (st1 := [.int v3.1]) rfl (fun H locs hP hD hS => ?_)
    exact hret v3.1 a_M_now v3.2 hg _ _ _ _ hP hS dX11_talk_40
  refine lv_iload_n hx hb dX11_talk_0 rfl (lv_at hl 1 rfl) ?_
  refine lv_i2l hx hb dX11_talk_1 rfl ?_
  refine lv_lconst (v := 0) hx hb dX11_talk_2 (by decide) ?_
  refine lv_aload_n hx hb dX11_talk_3 rfl (lv_at hl 0 rfl) ?_
  refine zget (C := RX11) (T := TX11) (N := 31) S hK hP 0 rfl rfl 0 (Nat.le_of_ble_eq_true rfl) zf_11 zw_149 rfl dX11_talk_4 ?_
  refine lv_iconst (v := 3) hx hb dX11_talk_7 (by decide) ?_
  refine ziald hx hb hK hP 1 0 rfl rfl (j := 3) (zin (by decide)) (by decide) dX11_talk_8 ?_
  refine lv_iconst (v := 1) hx hb dX11_talk_9 (by decide) ?_
  refine lv_isub hx hb dX11_talk_10 ?_
  refine lv_i2l hx hb dX11_talk_11 rfl ?_
  obtain ⟨v1, hc2, hg⟩ := zbd hg
  refine zcallS (rest := []) S (c_X11_in l D cI cJ cZ cA ga x1.toInt64 (0 : Int64) (((a_M_now 3) - 1).toInt64) v1 hc2) (zgS zw_220 zw_221 zw_5 zw_222) rfl hd_X11_in ⟨rfl, rfl⟩ ⟨Nat.le_of_ble_eq_true rfl, Nat.le_of_ble_eq_true rfl⟩ rfl hl.1 rfl (Nat.le_of_ble_eq_true rfl) dX11_talk_12 hP hD hS hA hK hG (isC := []) rfl (by decide +kernel) rfl ⟨Nat.zero_le _, Nat.zero_le _⟩ (pl := [none, none, none]) (nw := 3) rfl (by decide +kernel) (w2 := (ws_X11_talk cI cJ cZ cA q_M q_M_now q_M_refused u_M_images u_M_kept u_M_text u_M_size u_M_sign u_M_manyAbove u_M_manyBelow u_M_above u_M_below u_M_at u_M_begin u_M_kind u_M_value u_M_read u_M_acts u_M_act u_M_waits u_M_wait u_M_held u_M_place u_M_heap u_M_clocks u_M_counts u_M_talking u_M_most u_M_hasA u_M_hasB u_M_talks u_M_big a_M_now a_M_refused)) rfl (st1 := [.int v1]) rfl (fun H locs hP hD hS => ?_)
  refine lv_if_eq (tgt := 34) hx hb dX11_talk_15 (by decide) (fun h15 => ?_) (fun h15 => ?_)
  · have hg := zp hg h15
    exact B34 a_M_now a_M_refused _ _ _ (lv_sub hl [0] rfl) hP hD hS hg
  · have hg := zn hg h15
    refine lv_iload_n hx hb dX11_talk_18 rfl (lv_at hl 2 rfl) ?_
    refine lv_if_lt (tgt := 34) hx hb dX11_talk_19 (by decide) (fun h19 => ?_) (fun h19 => ?_)
    · have hg := zp hg h19
      exact B34 a_M_now a_M_refused _ _ _ (lv_sub hl [0] rfl) hP hD hS hg
    · have hg := zn hg h19
      refine lv_iload_n hx hb dX11_talk_22 rfl (lv_at hl 2 rfl) ?_
      refine lv_iload_n hx hb dX11_talk_23 rfl (lv_at hl 3 rfl) ?_
      refine lv_icmp_ge (tgt := 34) hx hb dX11_talk_24 (by decide) (fun h24 => ?_) (fun h24 => ?_)
      · have hg := zp hg h24
        exact B34 a_M_now a_M_refused _ _ _ (lv_sub hl [0] rfl) hP hD hS hg
      · have hg := zn hg h24
        refine lv_iload_n hx hb dX11_talk_27 rfl (lv_at hl 3 rfl) ?_
        refine lv_sipush (v := 240) hx hb dX11_talk_28 (by decide) ?_
        refine lv_icmp_le (tgt := 41) hx hb dX11_talk_31 (by decide) (fun h31 => ?_) (fun h31 => ?_)
        · have hg := zp hg h31
          refine lv_aload_n hx hb dX11_talk_41 rfl (lv_at hl 0 rfl) ?_
          refine zget (C := RX11) (T := TX11) (N := 31) S hK hP 0 rfl rfl 0 (Nat.le_of_ble_eq_true rfl) zf_11 zw_149 rfl dX11_talk_42 ?_
          refine lv_iconst (v := 4) hx hb dX11_talk_45 (by decide) ?_
          refine ziald hx hb hK hP 1 0 rfl rfl (j := 4) (zin (by decide)) (by decide) dX11_talk_46 ?_
          refine lv_bipush (v := 16) hx hb dX11_talk_47 (by decide) ?_
          refine lv_icmp_ne (tgt := 59) hx hb dX11_talk_49 (by decide) (fun h49 => ?_) (fun h49 => ?_)
          · have hg := zn hg h49
            refine lv_aload_n hx hb dX11_talk_59 rfl (lv_at hl 0 rfl) ?_
            refine zget (C := RX11) (T := TX11) (N := 31) S hK hP 0 rfl rfl 0 (Nat.le_of_ble_eq_true rfl) zf_11 zw_149 rfl dX11_talk_60 ?_
            refine lv_iconst (v := 4) hx hb dX11_talk_63 (by decide) ?_
            refine ziald hx hb hK hP 1 0 rfl rfl (j := 4) (zin (by decide)) (by decide) dX11_talk_64 ?_
            refine lv_istore (lv' := [(4, .int (a_M_now 4)), (0, .ref q_M), (1, .int x1), (2, .int x2), (3, .int x3)]) hx hb dX11_talk_65 hl (by decide) rfl (fun ls hl => ?_)
            refine lv_aload_n hx hb dX11_talk_67 rfl (lv_at hl 1 rfl) ?_
            refine zget (C := RX11) (T := TX11) (N := 31) S hK hP 0 rfl rfl 0 (Nat.le_of_ble_eq_true rfl) zf_11 zw_149 rfl dX11_talk_68 ?_
            refine lv_bipush (v := 23) hx hb dX11_talk_71 (by decide) ?_
            refine lv_iload hx hb dX11_talk_73 (lv_at hl 0 rfl) ?_
            refine lv_iadd hx hb dX11_talk_75 ?_
            refine lv_iload_n hx hb dX11_talk_76 rfl (lv_at hl 2 rfl) ?_
            obtain ⟨h5, hg⟩ := zck hg
            refine ziast hx hb hK hP hD hS 1 0 rfl rfl (j := ((23 + (a_M_now 4)).toNatClampNeg)) h5 rfl dX11_talk_77 (w2 := (ws_X11_talk cI cJ cZ cA q_M q_M_now q_M_refused u_M_images u_M_kept u_M_text u_M_size u_M_sign u_M_manyAbove u_M_manyBelow u_M_above u_M_below u_M_at u_M_begin u_M_kind u_M_value u_M_read u_M_acts u_M_act u_M_waits u_M_wait u_M_held u_M_place u_M_heap u_M_clocks u_M_counts u_M_talking u_M_most u_M_hasA u_M_hasB u_M_talks u_M_big (upd a_M_now ((23 + (a_M_now 4)).toNatClampNeg) x1) a_M_refused)) rfl (fun H locs hP hD hS => ?_)
            refine lv_aload_n hx hb dX11_talk_78 rfl (lv_at hl 1 rfl) ?_
            refine zget (C := RX11) (T := TX11) (N := 31) S hK hP 0 rfl rfl 0 (Nat.le_of_ble_eq_true rfl) zf_11 zw_149 rfl dX11_talk_79 ?_
            refine lv_bipush (v := 39) hx hb dX11_talk_82 (by decide) ?_
            refine lv_iload hx hb dX11_talk_84 (lv_at hl 0 rfl) ?_
            refine lv_iadd hx hb dX11_talk_86 ?_
            refine lv_iload_n hx hb dX11_talk_87 rfl (lv_at hl 3 rfl) ?_
            obtain ⟨h6, hg⟩ := zck hg
            refine ziast hx hb hK hP hD hS 1 0 rfl rfl (j := ((39 + (a_M_now 4)).toNatClampNeg)) h6 rfl dX11_talk_88 (w2 := (ws_X11_talk cI cJ cZ cA q_M q_M_now q_M_refused u_M_images u_M_kept u_M_text u_M_size u_M_sign u_M_manyAbove u_M_manyBelow u_M_above u_M_below u_M_at u_M_begin u_M_kind u_M_value u_M_read u_M_acts u_M_act u_M_waits u_M_wait u_M_held u_M_place u_M_heap u_M_clocks u_M_counts u_M_talking u_M_most u_M_hasA u_M_hasB u_M_talks u_M_big (upd (upd a_M_now ((23 + (a_M_now 4)).toNatClampNeg) x1) ((39 + (a_M_now 4)).toNatClampNeg) x2) a_M_refused)) rfl (fun H locs hP hD hS => ?_)
            refine lv_aload_n hx hb dX11_talk_89 rfl (lv_at hl 1 rfl) ?_
            refine zget (C := RX11) (T := TX11) (N := 31) S hK hP 0 rfl rfl 0 (Nat.le_of_ble_eq_true rfl) zf_11 zw_149 rfl dX11_talk_90 ?_
            refine lv_bipush (v := 55) hx hb dX11_talk_93 (by decide) ?_
            refine lv_iload hx hb dX11_talk_95 (lv_at hl 0 rfl) ?_
            refine lv_iadd hx hb dX11_talk_97 ?_
            refine lv_iload_n hx hb dX11_talk_98 rfl (lv_at hl 4 rfl) ?_
            obtain ⟨h7, hg⟩ := zck hg
            refine ziast hx hb hK hP hD hS 1 0 rfl rfl (j := ((55 + (a_M_now 4)).toNatClampNeg)) h7 rfl dX11_talk_99 (w2 := (ws_X11_talk cI cJ cZ cA q_M q_M_now q_M_refused u_M_images u_M_kept u_M_text u_M_size u_M_sign u_M_manyAbove u_M_manyBelow u_M_above u_M_below u_M_at u_M_begin u_M_kind u_M_value u_M_read u_M_acts u_M_act u_M_waits u_M_wait u_M_held u_M_place u_M_heap u_M_clocks u_M_counts u_M_talking u_M_most u_M_hasA u_M_hasB u_M_talks u_M_big (upd (upd (upd a_M_now ((23 + (a_M_now 4)).toNatClampNeg) x1) ((39 + (a_M_now 4)).toNatClampNeg) x2) ((55 + (a_M_now 4)).toNatClampNeg) x3) a_M_refused)) rfl (fun H locs hP hD hS => ?_)
            refine lv_aload_n hx hb dX11_talk_100 rfl (lv_at hl 1 rfl) ?_
            refine zget (C := RX11) (T := TX11) (N := 31) S hK hP 0 rfl rfl 0 (Nat.le_of_ble_eq_true rfl) zf_11 zw_149 rfl dX11_talk_101 ?_
            refine lv_iconst (v := 4) hx hb dX11_talk_104 (by decide) ?_
            refine lv_dup2_11 hx hb dX11_talk_105 rfl rfl ?_
            refine ziald hx hb hK hP 1 0 rfl rfl (j := 4) (zin (by decide)) (by decide) dX11_talk_106 ?_
            refine lv_iconst (v := 1) hx hb dX11_talk_107 (by decide) ?_
            refine lv_iadd hx hb dX11_talk_108 ?_
            refine ziast hx hb hK hP hD hS 1 0 rfl rfl (j := 4) (zin (by decide)) (by decide) dX11_talk_109 (w2 := (ws_X11_talk cI cJ cZ cA q_M q_M_now q_M_refused u_M_images u_M_kept u_M_text u_M_size u_M_sign u_M_manyAbove u_M_manyBelow u_M_above u_M_below u_M_at u_M_begin u_M_kind u_M_value u_M_read u_M_acts u_M_act u_M_waits u_M_wait u_M_held u_M_place u_M_heap u_M_clocks u_M_counts u_M_talking u_M_most u_M_hasA u_M_hasB u_M_talks u_M_big (upd (upd (upd (upd a_M_now ((23 + (a_M_now 4)).toNatClampNeg) x1) ((39 + (a_M_now 4)).toNatClampNeg) x2) ((55 + (a_M_now 4)).toNatClampNeg) x3) 4 (((upd (upd (upd a_M_now ((23 + (a_M_now 4)).toNatClampNeg) x1) ((39 + (a_M_now 4)).toNatClampNeg) x2) ((55 + (a_M_now 4)).toNatClampNeg) x3) 4) + 1)) a_M_refused)) rfl (fun H locs hP hD hS => ?_)
            refine lv_iload hx hb dX11_talk_110 (lv_at hl 0 rfl) ?_
            exact hret (a_M_now 4) (upd (upd (upd (upd a_M_now ((23 + (a_M_now 4)).toNatClampNeg) x1) ((39 + (a_M_now 4)).toNatClampNeg) x2) ((55 + (a_M_now 4)).toNatClampNeg) x3) 4 (((upd (upd (upd a_M_now ((23 + (a_M_now 4)).toNatClampNeg) x1) ((39 + (a_M_now 4)).toNatClampNeg) x2) ((55 + (a_M_now 4)).toNatClampNeg) x3) 4) + 1)) a_M_refused hg _ _ _ _ hP hS dX11_talk_112
          · have hg := zp hg h49
            refine lv_aload_n hx hb dX11_talk_52 rfl (lv_at hl 0 rfl) ?_
            refine lv_bipush (v := (-4)) hx hb dX11_talk_53 (by decide) ?_
            obtain ⟨v8, hc9, hg⟩ := zbd hg
            refine zcallV (rest := []) S (c_X11_refuse l D cI cJ cZ cA ga q_M q_M_refused (.ref q_M_now) u_M_images u_M_kept u_M_text u_M_size u_M_sign u_M_manyAbove u_M_manyBelow u_M_above u_M_below u_M_at u_M_begin u_M_kind u_M_value u_M_read u_M_acts u_M_act u_M_waits u_M_wait u_M_held u_M_place u_M_heap u_M_clocks u_M_counts u_M_talking u_M_most u_M_hasA u_M_hasB u_M_talks u_M_big a_M_refused (-4) v8 hc9) (zgV zw_223 zw_224 zw_225 zw_5 zw_226) rfl hd_X11_refuse ⟨rfl, rfl⟩ ⟨Nat.le_of_ble_eq_true rfl, Nat.le_of_ble_eq_true rfl⟩ 0 11 rfl rfl rfl hl.1 rfl (Nat.le_of_ble_eq_true rfl) dX11_talk_55 hP hD hS hA hK hG (isC := [0, 2]) rfl (by decide +kernel) rfl ⟨Nat.zero_le _, Nat.zero_le _⟩ (pl := [some 0, none, some 1]) (nw := 3) rfl (by decide +kernel) (w2 := (ws_X11_talk cI cJ cZ cA q_M q_M_now q_M_refused u_M_images u_M_kept u_M_text u_M_size u_M_sign u_M_manyAbove u_M_manyBelow u_M_above u_M_below u_M_at u_M_begin u_M_kind u_M_value u_M_read u_M_acts u_M_act u_M_waits u_M_wait u_M_held u_M_place u_M_heap u_M_clocks u_M_counts u_M_talking u_M_most u_M_hasA u_M_hasB u_M_talks u_M_big a_M_now v8.2)) rfl (st1 := [.int v8.1]) rfl (fun H locs hP hD hS => ?_)
            exact hret v8.1 a_M_now v8.2 hg _ _ _ _ hP hS dX11_talk_58
        · have hg := zn hg h31
          exact B34 a_M_now a_M_refused _ _ _ (lv_sub hl [0] rfl) hP hD hS hg

/-! SpokenClockModel.due(III)I -/
abbrev ws_X11_due (cI cJ cZ cA : ClassId) (q_M q_M_refused q_M_now : Nat) (u_M_images : Value) (u_M_kept : Value) (u_M_text : Value) (u_M_size : Value) (u_M_sign : Value) (u_M_manyAbove : Value) (u_M_manyBelow : Value) (u_M_above : Value) (u_M_below : Value) (u_M_at : Value) (u_M_begin : Value) (u_M_kind : Value) (u_M_value : Value) (u_M_read : Value) (u_M_acts : Value) (u_M_act : Value) (u_M_waits : Value) (u_M_wait : Value) (u_M_held : Value) (u_M_place : Value) (u_M_heap : Value) (u_M_clocks : Value) (u_M_counts : Value) (u_M_talking : Value) (u_M_most : Value) (u_M_hasA : Value) (u_M_hasB : Value) (u_M_talks : Value) (u_M_big : Value) (a_M_refused : Nat → Int32) (a_M_now : Nat → Int32) : va_W := [(q_M, .inr (11, [.ref q_M_now, u_M_images, u_M_kept, u_M_text, u_M_size, u_M_sign, u_M_manyAbove, u_M_manyBelow, u_M_above, u_M_below, .ref q_M_refused, u_M_at, u_M_begin, u_M_kind, u_M_value, u_M_read, u_M_acts, u_M_act, u_M_waits, u_M_wait, u_M_held, u_M_place, u_M_heap, u_M_clocks, u_M_counts, u_M_talking, u_M_most, u_M_hasA, u_M_hasB, u_M_talks, u_M_big])), (q_M_refused, .inl (cI, 3, .inl a_M_refused)), (q_M_now, .inl (cI, 155, .inl a_M_now))]
abbrev rm_X11_due : Room := { frames := 1, cells := 0, slots := 0, locals := 25 }
def g_X11_due_38 (x1 : Int32) (x2 : Int32) (x3 : Int32) (a_M_refused : Nat → Int32) (a_M_now : Nat → Int32) : Option (Int32 × (Nat → Int32) × (Nat → Int32)) :=
  (g_X11_refuse (-2) a_M_refused).bind fun v3 =>
  some (v3.1, v3.2, a_M_now)
def g_X11_due (x1 : Int32) (x2 : Int32) (x3 : Int32) (a_M_refused : Nat → Int32) (a_M_now : Nat → Int32) : Option (Int32 × (Nat → Int32) × (Nat → Int32)) :=
  (g_X11_in x1.toInt64 (0 : Int64) (99 : Int64)).bind fun v1 =>
  if v1 = 0 then (
    g_X11_due_38 x1 x2 x3 a_M_refused a_M_now
  ) else (
    (g_X11_in x2.toInt64 (0 : Int64) (99 : Int64)).bind fun v5 =>
    if v5 = 0 then (
      g_X11_due_38 x1 x2 x3 a_M_refused a_M_now
    ) else (
      (g_X11_in x3.toInt64 (-99 : Int64) (99 : Int64)).bind fun v7 =>
      if v7 = 0 then (
        g_X11_due_38 x1 x2 x3 a_M_refused a_M_now
      ) else (
        if (a_M_now 5) = 8 then (
          (g_X11_refuse (-4) a_M_refused).bind fun v12 =>
          some (v12.1, v12.2, a_M_now)
        ) else (
          if (71 + (a_M_now 5)) < 0 ∨ 155 ≤ (71 + (a_M_now 5)).toNatClampNeg then none else
          if (79 + (a_M_now 5)) < 0 ∨ 155 ≤ (79 + (a_M_now 5)).toNatClampNeg then none else
          if (87 + (a_M_now 5)) < 0 ∨ 155 ≤ (87 + (a_M_now 5)).toNatClampNeg then none else
          some (a_M_now 5, a_M_refused, upd (upd (upd (upd a_M_now ((71 + (a_M_now 5)).toNatClampNeg) x1) ((79 + (a_M_now 5)).toNatClampNeg) x2) ((87 + (a_M_now 5)).toNatClampNeg) x3) 5 (((upd (upd (upd a_M_now ((71 + (a_M_now 5)).toNatClampNeg) x1) ((79 + (a_M_now 5)).toNatClampNeg) x2) ((87 + (a_M_now 5)).toNatClampNeg) x3) 5) + 1))
        )
      )
    )
  )
theorem hd_X11_due : yX11_due.cls = RX11 ∧ yX11_due.cls ≠ "java/lang/invoke/MethodHandle" ∧ yX11_due.cls ≠ "java/lang/invoke/VarHandle" ∧ (parseMethodDescriptor yX11_due.desc).map (fun d => d.parameters.length) = some 3 := by decide +kernel
set_option maxHeartbeats 4000000 in
set_option maxRecDepth 100000 in
theorem c_X11_due (l : Launch) (D : va_G) (cI cJ cZ cA : ClassId) (ga : Nat → Nat) (q_M q_M_refused q_M_now : Nat) (u_M_images : Value) (u_M_kept : Value) (u_M_text : Value) (u_M_size : Value) (u_M_sign : Value) (u_M_manyAbove : Value) (u_M_manyBelow : Value) (u_M_above : Value) (u_M_below : Value) (u_M_at : Value) (u_M_begin : Value) (u_M_kind : Value) (u_M_value : Value) (u_M_read : Value) (u_M_acts : Value) (u_M_act : Value) (u_M_waits : Value) (u_M_wait : Value) (u_M_held : Value) (u_M_place : Value) (u_M_heap : Value) (u_M_clocks : Value) (u_M_counts : Value) (u_M_talking : Value) (u_M_most : Value) (u_M_hasA : Value) (u_M_hasB : Value) (u_M_talks : Value) (u_M_big : Value) (a_M_refused : Nat → Int32) (a_M_now : Nat → Int32) (x1 : Int32) (x2 : Int32) (x3 : Int32) (o : Int32 × (Nat → Int32) × (Nat → Int32)) (hg : g_X11_due x1 x2 x3 a_M_refused a_M_now = some o) : zM l yX11_due (Cond.code yX11_due cX11_due 5 (some .int) :: wsL_law) rm_X11_due D (zTy cI cJ cZ cA) ga [.ref q_M, .int x1, .int x2, .int x3] (ws_X11_due cI cJ cZ cA q_M q_M_refused q_M_now u_M_images u_M_kept u_M_text u_M_size u_M_sign u_M_manyAbove u_M_manyBelow u_M_above u_M_below u_M_at u_M_begin u_M_kind u_M_value u_M_read u_M_acts u_M_act u_M_waits u_M_wait u_M_held u_M_place u_M_heap u_M_clocks u_M_counts u_M_talking u_M_most u_M_hasA u_M_hasB u_M_talks u_M_big a_M_refused a_M_now) (ws_X11_due cI cJ cZ cA q_M q_M_refused q_M_now u_M_images u_M_kept u_M_text u_M_size u_M_sign u_M_manyAbove u_M_manyBelow u_M_above u_M_below u_M_at u_M_begin u_M_kind u_M_value u_M_read u_M_acts u_M_act u_M_waits u_M_wait u_M_held u_M_place u_M_heap u_M_clocks u_M_counts u_M_talking u_M_most u_M_hasA u_M_hasB u_M_talks u_M_big o.2.1 o.2.2) (some (.int o.1)) := by
  refine zenterI (own := RX11) (by decide) rfl rfl (Nat.le_of_ble_eq_true rfl) ?_
  intro p e s m args below meth c A ls Q S hA hK hG hl hP hD hS hret0
  have hx := S.1
  have hb := S.2.1
  have ht : ∀ w, w ∈ wsL_law → w.before args s = true := fun w h => S.2.2.2.2 w (List.mem_cons_of_mem _ h)
  have hret : ∀ (r9 : Int32) (a_M_refused : Nat → Int32) (a_M_now : Nat → Int32), (some (r9, a_M_refused, a_M_now) : Option (Int32 × (Nat → Int32) × (Nat → Int32))) = some o → ∀ (H : Heap) (locs : List Loc) (pc : Nat) (ls : Array Slot), va_P D vwCl (ws_X11_due cI cJ cZ cA q_M q_M_refused q_M_now u_M_images u_M_kept u_M_text u_M_size u_M_sign u_M_manyAbove u_M_manyBelow u_M_above u_M_below u_M_at u_M_begin u_M_kind u_M_value u_M_read u_M_acts u_M_act u_M_waits u_M_wait u_M_held u_M_place u_M_heap u_M_clocks u_M_counts u_M_talking u_M_most u_M_hasA u_M_hasB u_M_talks u_M_big a_M_refused a_M_now) H → va_S A s.heap H locs → decode cX11_due pc = .ok (.ireturn, 1) → W p l e rm_X11_due s m args below meth c H locs 0 0 Q (F0 m pc ls [.int r9]) := by
    intro r9 a_M_refused a_M_now he; cases he; exact hret0
  have hl : lv_has ls 5 [(0, .ref q_M), (1, .int x1), (2, .int x2), (3, .int x3)] := hl
  have B38 : ∀ (a_M_refused : Nat → Int32) (a_M_now : Nat → Int32) (H : Heap) (locs : List Loc) (ls : Array Slot) (hl : lv_has ls 5 [(0, .ref q_M)]) (hP : va_P D vwCl (ws_X11_due cI cJ cZ cA q_M q_M_refused q_M_now u_M_images u_M_kept u_M_text u_M_size u_M_sign u_M_manyAbove u_M_manyBelow u_M_above u_M_below u_M_at u_M_begin u_M_kind u_M_value u_M_read u_M_acts u_M_act u_M_waits u_M_wait u_M_held u_M_place u_M_heap u_M_clocks u_M_counts u_M_talking u_M_most u_M_hasA u_M_hasB u_M_talks u_M_big a_M_refused a_M_now) H) (hD : va_D A (ws_X11_due cI cJ cZ cA q_M q_M_refused q_M_now u_M_images u_M_kept u_M_text u_M_size u_M_sign u_M_manyAbove u_M_manyBelow u_M_above u_M_below u_M_at u_M_begin u_M_kind u_M_value u_M_read u_M_acts u_M_act u_M_waits u_M_wait u_M_held u_M_place u_M_heap u_M_clocks u_M_counts u_M_talking u_M_most u_M_hasA u_M_hasB u_M_talks u_M_big a_M_refused a_M_now)) (hS : va_S A s.heap H locs), g_X11_due_38 x1 x2 x3 a_M_refused a_M_now = some o → W p l e rm_X11_due s m args below meth c H locs 0 0 Q (F0 m 38 ls []) := by
    intro  a_M_refused a_M_now H locs ls hl hP hD hS hg
    refine lv_aload_n hx hb dX11_due_38 rfl (lv_at hl 0 rfl) ?_
    refine lv_bipush (v := (-2)) hx hb dX11_due_39 (by decide) ?_
    obtain ⟨v3, hc4, hg⟩ := zbd hg
    refine zcallV (rest := []) S (c_X11_refuse l D cI cJ cZ cA ga q_M q_M_refused (.ref q_M_now) u_M_images u_M_kept u_M_text u_M_size u_M_sign u_M_manyAbove u_M_manyBelow u_M_above u_M_below u_M_at u_M_begin u_M_kind u_M_value u_M_read u_M_acts u_M_act u_M_waits u_M_wait u_M_held u_M_place u_M_heap u_M_clocks u_M_counts u_M_talking u_M_most u_M_hasA u_M_hasB u_M_talks u_M_big a_M_refused (-2) v3 hc4) (zgV zw_223 zw_224 zw_225 zw_5 zw_226) rfl hd_X11_refuse ⟨rfl, rfl⟩ ⟨Nat.le_of_ble_eq_true rfl, Nat.le_of_ble_eq_true rfl⟩ 0 11 rfl rfl rfl hl.1 rfl (Nat.le_of_ble_eq_true rfl) dX11_due_41 hP hD hS hA hK hG (isC := [0, 1]) rfl (by decide +kernel) rfl ⟨Nat.zero_le _, Nat.zero_le _⟩ (pl := [some 0, some 1, none]) (nw := 3) rfl (by decide +kernel) (w2 := (ws_X11_due cI cJ cZ cA q_M q_M_refused q_M_now u_M_images u_M_kept u_M_text u_M_size u_M_sign u_M_manyAbove u_M_manyBelow u_M_above u_M_below u_M_at u_M_begin u_M_kind u_M_value u_M_read u_M_acts u_M_act u_M_waits u_M_wait u_M_held u_M_place u_M_heap u_M_clocks u_M_counts u_M_talking u_M_most u_M_hasA u_M_hasB u_M_talks u_M_big v3.2 a_M_now)) rfl (st1 := [.int v3.1]) rfl (fun H locs hP hD hS => ?_)
    exact hret v3.1 v3.2 a_M_now hg _ _ _ _ hP hS dX11_due_44
  refine lv_iload_n hx hb dX11_due_0 rfl (lv_at hl 1 rfl) ?_
  refine lv_i2l hx hb dX11_due_1 rfl ?_
  refine lv_lconst (v := 0) hx hb dX11_due_2 (by decide) ?_
  refine lv_ldc2 (v := 99) hx hb S.2.2.2.1 (ht _ zw_270) dX11_due_3 ?_
  obtain ⟨v1, hc2, hg⟩ := zbd hg
  refine zcallS (rest := []) S (c_X11_in l D cI cJ cZ cA ga x1.toInt64 (0 : Int64) (99 : Int64) v1 hc2) (zgS zw_220 zw_221 zw_5 zw_222) rfl hd_X11_in ⟨rfl, rfl⟩ ⟨Nat.le_of_ble_eq_true rfl, Nat.le_of_ble_eq_true rfl⟩ rfl hl.1 rfl (Nat.le_of_ble_eq_true rfl) dX11_due_6 hP hD hS hA hK hG (isC := []) rfl (by decide +kernel) rfl ⟨Nat.zero_le _, Nat.zero_le _⟩ (pl := [none, none, none]) (nw := 3) rfl (by decide +kernel) (w2 := (ws_X11_due cI cJ cZ cA q_M q_M_refused q_M_now u_M_images u_M_kept u_M_text u_M_size u_M_sign u_M_manyAbove u_M_manyBelow u_M_above u_M_below u_M_at u_M_begin u_M_kind u_M_value u_M_read u_M_acts u_M_act u_M_waits u_M_wait u_M_held u_M_place u_M_heap u_M_clocks u_M_counts u_M_talking u_M_most u_M_hasA u_M_hasB u_M_talks u_M_big a_M_refused a_M_now)) rfl (st1 := [.int v1]) rfl (fun H locs hP hD hS => ?_)
  refine lv_if_eq (tgt := 38) hx hb dX11_due_9 (by decide) (fun h9 => ?_) (fun h9 => ?_)
  · have hg := zp hg h9
    exact B38 a_M_refused a_M_now _ _ _ (lv_sub hl [0] rfl) hP hD hS hg
  · have hg := zn hg h9
    refine lv_iload_n hx hb dX11_due_12 rfl (lv_at hl 2 rfl) ?_
    refine lv_i2l hx hb dX11_due_13 rfl ?_
    refine lv_lconst (v := 0) hx hb dX11_due_14 (by decide) ?_
    refine lv_ldc2 (v := 99) hx hb S.2.2.2.1 (ht _ zw_270) dX11_due_15 ?_
    obtain ⟨v5, hc6, hg⟩ := zbd hg
    refine zcallS (rest := []) S (c_X11_in l D cI cJ cZ cA ga x2.toInt64 (0 : Int64) (99 : Int64) v5 hc6) (zgS zw_220 zw_221 zw_5 zw_222) rfl hd_X11_in ⟨rfl, rfl⟩ ⟨Nat.le_of_ble_eq_true rfl, Nat.le_of_ble_eq_true rfl⟩ rfl hl.1 rfl (Nat.le_of_ble_eq_true rfl) dX11_due_18 hP hD hS hA hK hG (isC := []) rfl (by decide +kernel) rfl ⟨Nat.zero_le _, Nat.zero_le _⟩ (pl := [none, none, none]) (nw := 3) rfl (by decide +kernel) (w2 := (ws_X11_due cI cJ cZ cA q_M q_M_refused q_M_now u_M_images u_M_kept u_M_text u_M_size u_M_sign u_M_manyAbove u_M_manyBelow u_M_above u_M_below u_M_at u_M_begin u_M_kind u_M_value u_M_read u_M_acts u_M_act u_M_waits u_M_wait u_M_held u_M_place u_M_heap u_M_clocks u_M_counts u_M_talking u_M_most u_M_hasA u_M_hasB u_M_talks u_M_big a_M_refused a_M_now)) rfl (st1 := [.int v5]) rfl (fun H locs hP hD hS => ?_)
    refine lv_if_eq (tgt := 38) hx hb dX11_due_21 (by decide) (fun h21 => ?_) (fun h21 => ?_)
    · have hg := zp hg h21
      exact B38 a_M_refused a_M_now _ _ _ (lv_sub hl [0] rfl) hP hD hS hg
    · have hg := zn hg h21
      refine lv_iload_n hx hb dX11_due_24 rfl (lv_at hl 3 rfl) ?_
      refine lv_i2l hx hb dX11_due_25 rfl ?_
      refine lv_ldc2 (v := (-99)) hx hb S.2.2.2.1 (ht _ zw_271) dX11_due_26 ?_
      refine lv_ldc2 (v := 99) hx hb S.2.2.2.1 (ht _ zw_270) dX11_due_29 ?_
      obtain ⟨v7, hc8, hg⟩ := zbd hg
      refine zcallS (rest := []) S (c_X11_in l D cI cJ cZ cA ga x3.toInt64 (-99 : Int64) (99 : Int64) v7 hc8) (zgS zw_220 zw_221 zw_5 zw_222) rfl hd_X11_in ⟨rfl, rfl⟩ ⟨Nat.le_of_ble_eq_true rfl, Nat.le_of_ble_eq_true rfl⟩ rfl hl.1 rfl (Nat.le_of_ble_eq_true rfl) dX11_due_32 hP hD hS hA hK hG (isC := []) rfl (by decide +kernel) rfl ⟨Nat.zero_le _, Nat.zero_le _⟩ (pl := [none, none, none]) (nw := 3) rfl (by decide +kernel) (w2 := (ws_X11_due cI cJ cZ cA q_M q_M_refused q_M_now u_M_images u_M_kept u_M_text u_M_size u_M_sign u_M_manyAbove u_M_manyBelow u_M_above u_M_below u_M_at u_M_begin u_M_kind u_M_value u_M_read u_M_acts u_M_act u_M_waits u_M_wait u_M_held u_M_place u_M_heap u_M_clocks u_M_counts u_M_talking u_M_most u_M_hasA u_M_hasB u_M_talks u_M_big a_M_refused a_M_now)) rfl (st1 := [.int v7]) rfl (fun H locs hP hD hS => ?_)
      refine lv_if_ne (tgt := 45) hx hb dX11_due_35 (by decide) (fun h35 => ?_) (fun h35 => ?_)
      · have hg := zn hg h35
        refine lv_aload_n hx hb dX11_due_45 rfl (lv_at hl 0 rfl) ?_
        refine zget (C := RX11) (T := TX11) (N := 31) S hK hP 0 rfl rfl 0 (Nat.le_of_ble_eq_true rfl) zf_11 zw_149 rfl dX11_due_46 ?_
        refine lv_iconst (v := 5) hx hb dX11_due_49 (by decide) ?_
        refine ziald hx hb hK hP 2 0 rfl rfl (j := 5) (zin (by decide)) (by decide) dX11_due_50 ?_
        refine lv_bipush (v := 8) hx hb dX11_due_51 (by decide) ?_
        refine lv_icmp_ne (tgt := 63) hx hb dX11_due_53 (by decide) (fun h53 => ?_) (fun h53 => ?_)
        · have hg := zn hg h53
          refine lv_aload_n hx hb dX11_due_63 rfl (lv_at hl 0 rfl) ?_
          refine zget (C := RX11) (T := TX11) (N := 31) S hK hP 0 rfl rfl 0 (Nat.le_of_ble_eq_true rfl) zf_11 zw_149 rfl dX11_due_64 ?_
          refine lv_iconst (v := 5) hx hb dX11_due_67 (by decide) ?_
          refine ziald hx hb hK hP 2 0 rfl rfl (j := 5) (zin (by decide)) (by decide) dX11_due_68 ?_
          refine lv_istore (lv' := [(4, .int (a_M_now 5)), (0, .ref q_M), (1, .int x1), (2, .int x2), (3, .int x3)]) hx hb dX11_due_69 hl (by decide) rfl (fun ls hl => ?_)
          refine lv_aload_n hx hb dX11_due_71 rfl (lv_at hl 1 rfl) ?_
          refine zget (C := RX11) (T := TX11) (N := 31) S hK hP 0 rfl rfl 0 (Nat.le_of_ble_eq_true rfl) zf_11 zw_149 rfl dX11_due_72 ?_
          refine lv_bipush (v := 71) hx hb dX11_due_75 (by decide) ?_
          refine lv_iload hx hb dX11_due_77 (lv_at hl 0 rfl) ?_
          refine lv_iadd hx hb dX11_due_79 ?_
          refine lv_iload_n hx hb dX11_due_80 rfl (lv_at hl 2 rfl) ?_
          obtain ⟨h9, hg⟩ := zck hg
          refine ziast hx hb hK hP hD hS 2 0 rfl rfl (j := ((71 + (a_M_now 5)).toNatClampNeg)) h9 rfl dX11_due_81 (w2 := (ws_X11_due cI cJ cZ cA q_M q_M_refused q_M_now u_M_images u_M_kept u_M_text u_M_size u_M_sign u_M_manyAbove u_M_manyBelow u_M_above u_M_below u_M_at u_M_begin u_M_kind u_M_value u_M_read u_M_acts u_M_act u_M_waits u_M_wait u_M_held u_M_place u_M_heap u_M_clocks u_M_counts u_M_talking u_M_most u_M_hasA u_M_hasB u_M_talks u_M_big a_M_refused (upd a_M_now ((71 + (a_M_now 5)).toNatClampNeg) x1))) rfl (fun H locs hP hD hS => ?_)
          refine lv_aload_n hx hb dX11_due_82 rfl (lv_at hl 1 rfl) ?_
          refine zget (C := RX11) (T := TX11) (N := 31) S hK hP 0 rfl rfl 0 (Nat.le_of_ble_eq_true rfl) zf_11 zw_149 rfl dX11_due_83 ?_
          refine lv_bipush (v := 79) hx hb dX11_due_86 (by decide) ?_
          refine lv_iload hx hb dX11_due_88 (lv_at hl 0 rfl) ?_
          refine lv_iadd hx hb dX11_due_90 ?_
          refine lv_iload_n hx hb dX11_due_91 rfl (lv_at hl 3 rfl) ?_
          obtain ⟨h10, hg⟩ := zck hg
          refine ziast hx hb hK hP hD hS 2 0 rfl rfl (j := ((79 + (a_M_now 5)).toNatClampNeg)) h10 rfl dX11_due_92 (w2 := (ws_X11_due cI cJ cZ cA q_M q_M_refused q_M_now u_M_images u_M_kept u_M_text u_M_size u_M_sign u_M_manyAbove u_M_manyBelow u_M_above u_M_below u_M_at u_M_begin u_M_kind u_M_value u_M_read u_M_acts u_M_act u_M_waits u_M_wait u_M_held u_M_place u_M_heap u_M_clocks u_M_counts u_M_talking u_M_most u_M_hasA u_M_hasB u_M_talks u_M_big a_M_refused (upd (upd a_M_now ((71 + (a_M_now 5)).toNatClampNeg) x1) ((79 + (a_M_now 5)).toNatClampNeg) x2))) rfl (fun H locs hP hD hS => ?_)
          refine lv_aload_n hx hb dX11_due_93 rfl (lv_at hl 1 rfl) ?_
          refine zget (C := RX11) (T := TX11) (N := 31) S hK hP 0 rfl rfl 0 (Nat.le_of_ble_eq_true rfl) zf_11 zw_149 rfl dX11_due_94 ?_
          refine lv_bipush (v := 87) hx hb dX11_due_97 (by decide) ?_
          refine lv_iload hx hb dX11_due_99 (lv_at hl 0 rfl) ?_
          refine lv_iadd hx hb dX11_due_101 ?_
          refine lv_iload_n hx hb dX11_due_102 rfl (lv_at hl 4 rfl) ?_
          obtain ⟨h11, hg⟩ := zck hg
          refine ziast hx hb hK hP hD hS 2 0 rfl rfl (j := ((87 + (a_M_now 5)).toNatClampNeg)) h11 rfl dX11_due_103 (w2 := (ws_X11_due cI cJ cZ cA q_M q_M_refused q_M_now u_M_images u_M_kept u_M_text u_M_size u_M_sign u_M_manyAbove u_M_manyBelow u_M_above u_M_below u_M_at u_M_begin u_M_kind u_M_value u_M_read u_M_acts u_M_act u_M_waits u_M_wait u_M_held u_M_place u_M_heap u_M_clocks u_M_counts u_M_talking u_M_most u_M_hasA u_M_hasB u_M_talks u_M_big a_M_refused (upd (upd (upd a_M_now ((71 + (a_M_now 5)).toNatClampNeg) x1) ((79 + (a_M_now 5)).toNatClampNeg) x2) ((87 + (a_M_now 5)).toNatClampNeg) x3))) rfl (fun H locs hP hD hS => ?_)
          refine lv_aload_n hx hb dX11_due_104 rfl (lv_at hl 1 rfl) ?_
          refine zget (C := RX11) (T := TX11) (N := 31) S hK hP 0 rfl rfl 0 (Nat.le_of_ble_eq_true rfl) zf_11 zw_149 rfl dX11_due_105 ?_
          refine lv_iconst (v := 5) hx hb dX11_due_108 (by decide) ?_
          refine lv_dup2_11 hx hb dX11_due_109 rfl rfl ?_
          refine ziald hx hb hK hP 2 0 rfl rfl (j := 5) (zin (by decide)) (by decide) dX11_due_110 ?_
          refine lv_iconst (v := 1) hx hb dX11_due_111 (by decide) ?_
          refine lv_iadd hx hb dX11_due_112 ?_
          refine ziast hx hb hK hP hD hS 2 0 rfl rfl (j := 5) (zin (by decide)) (by decide) dX11_due_113 (w2 := (ws_X11_due cI cJ cZ cA q_M q_M_refused q_M_now u_M_images u_M_kept u_M_text u_M_size u_M_sign u_M_manyAbove u_M_manyBelow u_M_above u_M_below u_M_at u_M_begin u_M_kind u_M_value u_M_read u_M_acts u_M_act u_M_waits u_M_wait u_M_held u_M_place u_M_heap u_M_clocks u_M_counts u_M_talking u_M_most u_M_hasA u_M_hasB u_M_talks u_M_big a_M_refused (upd (upd (upd (upd a_M_now ((71 + (a_M_now 5)).toNatClampNeg) x1) ((79 + (a_M_now 5)).toNatClampNeg) x2) ((87 + (a_M_now 5)).toNatClampNeg) x3) 5 (((upd (upd (upd a_M_now ((71 + (a_M_now 5)).toNatClampNeg) x1) ((79 + (a_M_now 5)).toNatClampNeg) x2) ((87 + (a_M_now 5)).toNatClampNeg) x3) 5) + 1)))) rfl (fun H locs hP hD hS => ?_)
          refine lv_iload hx hb dX11_due_114 (lv_at hl 0 rfl) ?_
          exact hret (a_M_now 5) a_M_refused (upd (upd (upd (upd a_M_now ((71 + (a_M_now 5)).toNatClampNeg) x1) ((79 + (a_M_now 5)).toNatClampNeg) x2) ((87 + (a_M_now 5)).toNatClampNeg) x3) 5 (((upd (upd (upd a_M_now ((71 + (a_M_now 5)).toNatClampNeg) x1) ((79 + (a_M_now 5)).toNatClampNeg) x2) ((87 + (a_M_now 5)).toNatClampNeg) x3) 5) + 1)) hg _ _ _ _ hP hS dX11_due_116
        · have hg := zp hg h53
          refine lv_aload_n hx hb dX11_due_56 rfl (lv_at hl 0 rfl) ?_
          refine lv_bipush (v := (-4)) hx hb dX11_due_57 (by decide) ?_
          obtain ⟨v12, hc13, hg⟩ := zbd hg
          refine zcallV (rest := []) S (c_X11_refuse l D cI cJ cZ cA ga q_M q_M_refused (.ref q_M_now) u_M_images u_M_kept u_M_text u_M_size u_M_sign u_M_manyAbove u_M_manyBelow u_M_above u_M_below u_M_at u_M_begin u_M_kind u_M_value u_M_read u_M_acts u_M_act u_M_waits u_M_wait u_M_held u_M_place u_M_heap u_M_clocks u_M_counts u_M_talking u_M_most u_M_hasA u_M_hasB u_M_talks u_M_big a_M_refused (-4) v12 hc13) (zgV zw_223 zw_224 zw_225 zw_5 zw_226) rfl hd_X11_refuse ⟨rfl, rfl⟩ ⟨Nat.le_of_ble_eq_true rfl, Nat.le_of_ble_eq_true rfl⟩ 0 11 rfl rfl rfl hl.1 rfl (Nat.le_of_ble_eq_true rfl) dX11_due_59 hP hD hS hA hK hG (isC := [0, 1]) rfl (by decide +kernel) rfl ⟨Nat.zero_le _, Nat.zero_le _⟩ (pl := [some 0, some 1, none]) (nw := 3) rfl (by decide +kernel) (w2 := (ws_X11_due cI cJ cZ cA q_M q_M_refused q_M_now u_M_images u_M_kept u_M_text u_M_size u_M_sign u_M_manyAbove u_M_manyBelow u_M_above u_M_below u_M_at u_M_begin u_M_kind u_M_value u_M_read u_M_acts u_M_act u_M_waits u_M_wait u_M_held u_M_place u_M_heap u_M_clocks u_M_counts u_M_talking u_M_most u_M_hasA u_M_hasB u_M_talks u_M_big v12.2 a_M_now)) rfl (st1 := [.int v12.1]) rfl (fun H locs hP hD hS => ?_)
          exact hret v12.1 v12.2 a_M_now hg _ _ _ _ hP hS dX11_due_62
      · have hg := zp hg h35
        exact B38 a_M_refused a_M_now _ _ _ (lv_sub hl [0] rfl) hP hD hS hg

/-! SpokenClockModel.sight(II)I -/
abbrev ws_X11_sight (cI cJ cZ cA : ClassId) (q_M q_M_refused q_M_now : Nat) (u_M_images : Value) (u_M_kept : Value) (u_M_text : Value) (u_M_size : Value) (u_M_sign : Value) (u_M_manyAbove : Value) (u_M_manyBelow : Value) (u_M_above : Value) (u_M_below : Value) (u_M_at : Value) (u_M_begin : Value) (u_M_kind : Value) (u_M_value : Value) (u_M_read : Value) (u_M_acts : Value) (u_M_act : Value) (u_M_waits : Value) (u_M_wait : Value) (u_M_held : Value) (u_M_place : Value) (u_M_heap : Value) (u_M_clocks : Value) (u_M_counts : Value) (u_M_talking : Value) (u_M_most : Value) (u_M_hasA : Value) (u_M_hasB : Value) (u_M_talks : Value) (u_M_big : Value) (a_M_refused : Nat → Int32) (a_M_now : Nat → Int32) : va_W := [(q_M, .inr (11, [.ref q_M_now, u_M_images, u_M_kept, u_M_text, u_M_size, u_M_sign, u_M_manyAbove, u_M_manyBelow, u_M_above, u_M_below, .ref q_M_refused, u_M_at, u_M_begin, u_M_kind, u_M_value, u_M_read, u_M_acts, u_M_act, u_M_waits, u_M_wait, u_M_held, u_M_place, u_M_heap, u_M_clocks, u_M_counts, u_M_talking, u_M_most, u_M_hasA, u_M_hasB, u_M_talks, u_M_big])), (q_M_refused, .inl (cI, 3, .inl a_M_refused)), (q_M_now, .inl (cI, 155, .inl a_M_now))]
abbrev rm_X11_sight : Room := { frames := 1, cells := 0, slots := 0, locals := 25 }
def g_X11_sight_24 (x1 : Int32) (x2 : Int32) (a_M_refused : Nat → Int32) (a_M_now : Nat → Int32) : Option (Int32 × (Nat → Int32) × (Nat → Int32)) :=
  (g_X11_refuse (-2) a_M_refused).bind fun v3 =>
  some (v3.1, v3.2, a_M_now)
def g_X11_sight (x1 : Int32) (x2 : Int32) (a_M_refused : Nat → Int32) (a_M_now : Nat → Int32) : Option (Int32 × (Nat → Int32) × (Nat → Int32)) :=
  (g_X11_in x1.toInt64 (0 : Int64) (240 : Int64)).bind fun v1 =>
  if v1 = 0 then (
    g_X11_sight_24 x1 x2 a_M_refused a_M_now
  ) else (
    (g_X11_in x2.toInt64 (0 : Int64) (999 : Int64)).bind fun v5 =>
    if v5 = 0 then (
      g_X11_sight_24 x1 x2 a_M_refused a_M_now
    ) else (
      if (a_M_now 6) = 10 then (
        (g_X11_refuse (-4) a_M_refused).bind fun v9 =>
        some (v9.1, v9.2, a_M_now)
      ) else (
        if (95 + (a_M_now 6)) < 0 ∨ 155 ≤ (95 + (a_M_now 6)).toNatClampNeg then none else
        if (105 + (a_M_now 6)) < 0 ∨ 155 ≤ (105 + (a_M_now 6)).toNatClampNeg then none else
        some (a_M_now 6, a_M_refused, upd (upd (upd a_M_now ((95 + (a_M_now 6)).toNatClampNeg) x1) ((105 + (a_M_now 6)).toNatClampNeg) x2) 6 (((upd (upd a_M_now ((95 + (a_M_now 6)).toNatClampNeg) x1) ((105 + (a_M_now 6)).toNatClampNeg) x2) 6) + 1))
      )
    )
  )
theorem hd_X11_sight : yX11_sight.cls = RX11 ∧ yX11_sight.cls ≠ "java/lang/invoke/MethodHandle" ∧ yX11_sight.cls ≠ "java/lang/invoke/VarHandle" ∧ (parseMethodDescriptor yX11_sight.desc).map (fun d => d.parameters.length) = some 2 := by decide +kernel
set_option maxHeartbeats 4000000 in
set_option maxRecDepth 100000 in
theorem c_X11_sight (l : Launch) (D : va_G) (cI cJ cZ cA : ClassId) (ga : Nat → Nat) (q_M q_M_refused q_M_now : Nat) (u_M_images : Value) (u_M_kept : Value) (u_M_text : Value) (u_M_size : Value) (u_M_sign : Value) (u_M_manyAbove : Value) (u_M_manyBelow : Value) (u_M_above : Value) (u_M_below : Value) (u_M_at : Value) (u_M_begin : Value) (u_M_kind : Value) (u_M_value : Value) (u_M_read : Value) (u_M_acts : Value) (u_M_act : Value) (u_M_waits : Value) (u_M_wait : Value) (u_M_held : Value) (u_M_place : Value) (u_M_heap : Value) (u_M_clocks : Value) (u_M_counts : Value) (u_M_talking : Value) (u_M_most : Value) (u_M_hasA : Value) (u_M_hasB : Value) (u_M_talks : Value) (u_M_big : Value) (a_M_refused : Nat → Int32) (a_M_now : Nat → Int32) (x1 : Int32) (x2 : Int32) (o : Int32 × (Nat → Int32) × (Nat → Int32)) (hg : g_X11_sight x1 x2 a_M_refused a_M_now = some o) : zM l yX11_sight (Cond.code yX11_sight cX11_sight 4 (some .int) :: wsL_law) rm_X11_sight D (zTy cI cJ cZ cA) ga [.ref q_M, .int x1, .int x2] (ws_X11_sight cI cJ cZ cA q_M q_M_refused q_M_now u_M_images u_M_kept u_M_text u_M_size u_M_sign u_M_manyAbove u_M_manyBelow u_M_above u_M_below u_M_at u_M_begin u_M_kind u_M_value u_M_read u_M_acts u_M_act u_M_waits u_M_wait u_M_held u_M_place u_M_heap u_M_clocks u_M_counts u_M_talking u_M_most u_M_hasA u_M_hasB u_M_talks u_M_big a_M_refused a_M_now) (ws_X11_sight cI cJ cZ cA q_M q_M_refused q_M_now u_M_images u_M_kept u_M_text u_M_size u_M_sign u_M_manyAbove u_M_manyBelow u_M_above u_M_below u_M_at u_M_begin u_M_kind u_M_value u_M_read u_M_acts u_M_act u_M_waits u_M_wait u_M_held u_M_place u_M_heap u_M_clocks u_M_counts u_M_talking u_M_most u_M_hasA u_M_hasB u_M_talks u_M_big o.2.1 o.2.2) (some (.int o.1)) := by
  refine zenterI (own := RX11) (by decide) rfl rfl (Nat.le_of_ble_eq_true rfl) ?_
  intro p e s m args below meth c A ls Q S hA hK hG hl hP hD hS hret0
  have hx := S.1
  have hb := S.2.1
  have ht : ∀ w, w ∈ wsL_law → w.before args s = true := fun w h => S.2.2.2.2 w (List.mem_cons_of_mem _ h)
  have hret : ∀ (r9 : Int32) (a_M_refused : Nat → Int32) (a_M_now : Nat → Int32), (some (r9, a_M_refused, a_M_now) : Option (Int32 × (Nat → Int32) × (Nat → Int32))) = some o → ∀ (H : Heap) (locs : List Loc) (pc : Nat) (ls : Array Slot), va_P D vwCl (ws_X11_sight cI cJ cZ cA q_M q_M_refused q_M_now u_M_images u_M_kept u_M_text u_M_size u_M_sign u_M_manyAbove u_M_manyBelow u_M_above u_M_below u_M_at u_M_begin u_M_kind u_M_value u_M_read u_M_acts u_M_act u_M_waits u_M_wait u_M_held u_M_place u_M_heap u_M_clocks u_M_counts u_M_talking u_M_most u_M_hasA u_M_hasB u_M_talks u_M_big a_M_refused a_M_now) H → va_S A s.heap H locs → decode cX11_sight pc = .ok (.ireturn, 1) → W p l e rm_X11_sight s m args below meth c H locs 0 0 Q (F0 m pc ls [.int r9]) := by
    intro r9 a_M_refused a_M_now he; cases he; exact hret0
  have hl : lv_has ls 4 [(0, .ref q_M), (1, .int x1), (2, .int x2)] := hl
  have B24 : ∀ (a_M_refused : Nat → Int32) (a_M_now : Nat → Int32) (H : Heap) (locs : List Loc) (ls : Array Slot) (hl : lv_has ls 4 [(0, .ref q_M)]) (hP : va_P D vwCl (ws_X11_sight cI cJ cZ cA q_M q_M_refused q_M_now u_M_images u_M_kept u_M_text u_M_size u_M_sign u_M_manyAbove u_M_manyBelow u_M_above u_M_below u_M_at u_M_begin u_M_kind u_M_value u_M_read u_M_acts u_M_act u_M_waits u_M_wait u_M_held u_M_place u_M_heap u_M_clocks u_M_counts u_M_talking u_M_most u_M_hasA u_M_hasB u_M_talks u_M_big a_M_refused a_M_now) H) (hD : va_D A (ws_X11_sight cI cJ cZ cA q_M q_M_refused q_M_now u_M_images u_M_kept u_M_text u_M_size u_M_sign u_M_manyAbove u_M_manyBelow u_M_above u_M_below u_M_at u_M_begin u_M_kind u_M_value u_M_read u_M_acts u_M_act u_M_waits u_M_wait u_M_held u_M_place u_M_heap u_M_clocks u_M_counts u_M_talking u_M_most u_M_hasA u_M_hasB u_M_talks u_M_big a_M_refused a_M_now)) (hS : va_S A s.heap H locs), g_X11_sight_24 x1 x2 a_M_refused a_M_now = some o → W p l e rm_X11_sight s m args below meth c H locs 0 0 Q (F0 m 24 ls []) := by
    intro  a_M_refused a_M_now H locs ls hl hP hD hS hg
    refine lv_aload_n hx hb dX11_sight_24 rfl (lv_at hl 0 rfl) ?_
    refine lv_bipush (v := (-2)) hx hb dX11_sight_25 (by decide) ?_
    obtain ⟨v3, hc4, hg⟩ := zbd hg
    refine zcallV (rest := []) S (c_X11_refuse l D cI cJ cZ cA ga q_M q_M_refused (.ref q_M_now) u_M_images u_M_kept u_M_text u_M_size u_M_sign u_M_manyAbove u_M_manyBelow u_M_above u_M_below u_M_at u_M_begin u_M_kind u_M_value u_M_read u_M_acts u_M_act u_M_waits u_M_wait u_M_held u_M_place u_M_heap u_M_clocks u_M_counts u_M_talking u_M_most u_M_hasA u_M_hasB u_M_talks u_M_big a_M_refused (-2) v3 hc4) (zgV zw_223 zw_224 zw_225 zw_5 zw_226) rfl hd_X11_refuse ⟨rfl, rfl⟩ ⟨Nat.le_of_ble_eq_true rfl, Nat.le_of_ble_eq_true rfl⟩ 0 11 rfl rfl rfl hl.1 rfl (Nat.le_of_ble_eq_true rfl) dX11_sight_27 hP hD hS hA hK hG (isC := [0, 1]) rfl (by decide +kernel) rfl ⟨Nat.zero_le _, Nat.zero_le _⟩ (pl := [some 0, some 1, none]) (nw := 3) rfl (by decide +kernel) (w2 := (ws_X11_sight cI cJ cZ cA q_M q_M_refused q_M_now u_M_images u_M_kept u_M_text u_M_size u_M_sign u_M_manyAbove u_M_manyBelow u_M_above u_M_below u_M_at u_M_begin u_M_kind u_M_value u_M_read u_M_acts u_M_act u_M_waits u_M_wait u_M_held u_M_place u_M_heap u_M_clocks u_M_counts u_M_talking u_M_most u_M_hasA u_M_hasB u_M_talks u_M_big v3.2 a_M_now)) rfl (st1 := [.int v3.1]) rfl (fun H locs hP hD hS => ?_)
    exact hret v3.1 v3.2 a_M_now hg _ _ _ _ hP hS dX11_sight_30
  refine lv_iload_n hx hb dX11_sight_0 rfl (lv_at hl 1 rfl) ?_
  refine lv_i2l hx hb dX11_sight_1 rfl ?_
  refine lv_lconst (v := 0) hx hb dX11_sight_2 (by decide) ?_
  refine lv_ldc2 (v := 240) hx hb S.2.2.2.1 (ht _ zw_219) dX11_sight_3 ?_
  obtain ⟨v1, hc2, hg⟩ := zbd hg
  refine zcallS (rest := []) S (c_X11_in l D cI cJ cZ cA ga x1.toInt64 (0 : Int64) (240 : Int64) v1 hc2) (zgS zw_220 zw_221 zw_5 zw_222) rfl hd_X11_in ⟨rfl, rfl⟩ ⟨Nat.le_of_ble_eq_true rfl, Nat.le_of_ble_eq_true rfl⟩ rfl hl.1 rfl (Nat.le_of_ble_eq_true rfl) dX11_sight_6 hP hD hS hA hK hG (isC := []) rfl (by decide +kernel) rfl ⟨Nat.zero_le _, Nat.zero_le _⟩ (pl := [none, none, none]) (nw := 3) rfl (by decide +kernel) (w2 := (ws_X11_sight cI cJ cZ cA q_M q_M_refused q_M_now u_M_images u_M_kept u_M_text u_M_size u_M_sign u_M_manyAbove u_M_manyBelow u_M_above u_M_below u_M_at u_M_begin u_M_kind u_M_value u_M_read u_M_acts u_M_act u_M_waits u_M_wait u_M_held u_M_place u_M_heap u_M_clocks u_M_counts u_M_talking u_M_most u_M_hasA u_M_hasB u_M_talks u_M_big a_M_refused a_M_now)) rfl (st1 := [.int v1]) rfl (fun H locs hP hD hS => ?_)
  refine lv_if_eq (tgt := 24) hx hb dX11_sight_9 (by decide) (fun h9 => ?_) (fun h9 => ?_)
  · have hg := zp hg h9
    exact B24 a_M_refused a_M_now _ _ _ (lv_sub hl [0] rfl) hP hD hS hg
  · have hg := zn hg h9
    refine lv_iload_n hx hb dX11_sight_12 rfl (lv_at hl 2 rfl) ?_
    refine lv_i2l hx hb dX11_sight_13 rfl ?_
    refine lv_lconst (v := 0) hx hb dX11_sight_14 (by decide) ?_
    refine lv_ldc2 (v := 999) hx hb S.2.2.2.1 (ht _ zw_280) dX11_sight_15 ?_
    obtain ⟨v5, hc6, hg⟩ := zbd hg
    refine zcallS (rest := []) S (c_X11_in l D cI cJ cZ cA ga x2.toInt64 (0 : Int64) (999 : Int64) v5 hc6) (zgS zw_220 zw_221 zw_5 zw_222) rfl hd_X11_in ⟨rfl, rfl⟩ ⟨Nat.le_of_ble_eq_true rfl, Nat.le_of_ble_eq_true rfl⟩ rfl hl.1 rfl (Nat.le_of_ble_eq_true rfl) dX11_sight_18 hP hD hS hA hK hG (isC := []) rfl (by decide +kernel) rfl ⟨Nat.zero_le _, Nat.zero_le _⟩ (pl := [none, none, none]) (nw := 3) rfl (by decide +kernel) (w2 := (ws_X11_sight cI cJ cZ cA q_M q_M_refused q_M_now u_M_images u_M_kept u_M_text u_M_size u_M_sign u_M_manyAbove u_M_manyBelow u_M_above u_M_below u_M_at u_M_begin u_M_kind u_M_value u_M_read u_M_acts u_M_act u_M_waits u_M_wait u_M_held u_M_place u_M_heap u_M_clocks u_M_counts u_M_talking u_M_most u_M_hasA u_M_hasB u_M_talks u_M_big a_M_refused a_M_now)) rfl (st1 := [.int v5]) rfl (fun H locs hP hD hS => ?_)
    refine lv_if_ne (tgt := 31) hx hb dX11_sight_21 (by decide) (fun h21 => ?_) (fun h21 => ?_)
    · have hg := zn hg h21
      refine lv_aload_n hx hb dX11_sight_31 rfl (lv_at hl 0 rfl) ?_
      refine zget (C := RX11) (T := TX11) (N := 31) S hK hP 0 rfl rfl 0 (Nat.le_of_ble_eq_true rfl) zf_11 zw_149 rfl dX11_sight_32 ?_
      refine lv_bipush (v := 6) hx hb dX11_sight_35 (by decide) ?_
      refine ziald hx hb hK hP 2 0 rfl rfl (j := 6) (zin (by decide)) (by decide) dX11_sight_37 ?_
      refine lv_bipush (v := 10) hx hb dX11_sight_38 (by decide) ?_
      refine lv_icmp_ne (tgt := 50) hx hb dX11_sight_40 (by decide) (fun h40 => ?_) (fun h40 => ?_)
      · have hg := zn hg h40
        refine lv_aload_n hx hb dX11_sight_50 rfl (lv_at hl 0 rfl) ?_
        refine zget (C := RX11) (T := TX11) (N := 31) S hK hP 0 rfl rfl 0 (Nat.le_of_ble_eq_true rfl) zf_11 zw_149 rfl dX11_sight_51 ?_
        refine lv_bipush (v := 6) hx hb dX11_sight_54 (by decide) ?_
        refine ziald hx hb hK hP 2 0 rfl rfl (j := 6) (zin (by decide)) (by decide) dX11_sight_56 ?_
        refine lv_istore_n (lv' := [(3, .int (a_M_now 6)), (0, .ref q_M), (1, .int x1), (2, .int x2)]) hx hb dX11_sight_57 rfl hl (by decide) rfl (fun ls hl => ?_)
        refine lv_aload_n hx hb dX11_sight_58 rfl (lv_at hl 1 rfl) ?_
        refine zget (C := RX11) (T := TX11) (N := 31) S hK hP 0 rfl rfl 0 (Nat.le_of_ble_eq_true rfl) zf_11 zw_149 rfl dX11_sight_59 ?_
        refine lv_bipush (v := 95) hx hb dX11_sight_62 (by decide) ?_
        refine lv_iload_n hx hb dX11_sight_64 rfl (lv_at hl 0 rfl) ?_
        refine lv_iadd hx hb dX11_sight_65 ?_
        refine lv_iload_n hx hb dX11_sight_66 rfl (lv_at hl 2 rfl) ?_
        obtain ⟨h7, hg⟩ := zck hg
        refine ziast hx hb hK hP hD hS 2 0 rfl rfl (j := ((95 + (a_M_now 6)).toNatClampNeg)) h7 rfl dX11_sight_67 (w2 := (ws_X11_sight cI cJ cZ cA q_M q_M_refused q_M_now u_M_images u_M_kept u_M_text u_M_size u_M_sign u_M_manyAbove u_M_manyBelow u_M_above u_M_below u_M_at u_M_begin u_M_kind u_M_value u_M_read u_M_acts u_M_act u_M_waits u_M_wait u_M_held u_M_place u_M_heap u_M_clocks u_M_counts u_M_talking u_M_most u_M_hasA u_M_hasB u_M_talks u_M_big a_M_refused (upd a_M_now ((95 + (a_M_now 6)).toNatClampNeg) x1))) rfl (fun H locs hP hD hS => ?_)
        refine lv_aload_n hx hb dX11_sight_68 rfl (lv_at hl 1 rfl) ?_
        refine zget (C := RX11) (T := TX11) (N := 31) S hK hP 0 rfl rfl 0 (Nat.le_of_ble_eq_true rfl) zf_11 zw_149 rfl dX11_sight_69 ?_
        refine lv_bipush (v := 105) hx hb dX11_sight_72 (by decide) ?_
        refine lv_iload_n hx hb dX11_sight_74 rfl (lv_at hl 0 rfl) ?_
        refine lv_iadd hx hb dX11_sight_75 ?_
        refine lv_iload_n hx hb dX11_sight_76 rfl (lv_at hl 3 rfl) ?_
        obtain ⟨h8, hg⟩ := zck hg
        refine ziast hx hb hK hP hD hS 2 0 rfl rfl (j := ((105 + (a_M_now 6)).toNatClampNeg)) h8 rfl dX11_sight_77 (w2 := (ws_X11_sight cI cJ cZ cA q_M q_M_refused q_M_now u_M_images u_M_kept u_M_text u_M_size u_M_sign u_M_manyAbove u_M_manyBelow u_M_above u_M_below u_M_at u_M_begin u_M_kind u_M_value u_M_read u_M_acts u_M_act u_M_waits u_M_wait u_M_held u_M_place u_M_heap u_M_clocks u_M_counts u_M_talking u_M_most u_M_hasA u_M_hasB u_M_talks u_M_big a_M_refused (upd (upd a_M_now ((95 + (a_M_now 6)).toNatClampNeg) x1) ((105 + (a_M_now 6)).toNatClampNeg) x2))) rfl (fun H locs hP hD hS => ?_)
        refine lv_aload_n hx hb dX11_sight_78 rfl (lv_at hl 1 rfl) ?_
        refine zget (C := RX11) (T := TX11) (N := 31) S hK hP 0 rfl rfl 0 (Nat.le_of_ble_eq_true rfl) zf_11 zw_149 rfl dX11_sight_79 ?_
        refine lv_bipush (v := 6) hx hb dX11_sight_82 (by decide) ?_
        refine lv_dup2_11 hx hb dX11_sight_84 rfl rfl ?_
        refine ziald hx hb hK hP 2 0 rfl rfl (j := 6) (zin (by decide)) (by decide) dX11_sight_85 ?_
        refine lv_iconst (v := 1) hx hb dX11_sight_86 (by decide) ?_
        refine lv_iadd hx hb dX11_sight_87 ?_
        refine ziast hx hb hK hP hD hS 2 0 rfl rfl (j := 6) (zin (by decide)) (by decide) dX11_sight_88 (w2 := (ws_X11_sight cI cJ cZ cA q_M q_M_refused q_M_now u_M_images u_M_kept u_M_text u_M_size u_M_sign u_M_manyAbove u_M_manyBelow u_M_above u_M_below u_M_at u_M_begin u_M_kind u_M_value u_M_read u_M_acts u_M_act u_M_waits u_M_wait u_M_held u_M_place u_M_heap u_M_clocks u_M_counts u_M_talking u_M_most u_M_hasA u_M_hasB u_M_talks u_M_big a_M_refused (upd (upd (upd a_M_now ((95 + (a_M_now 6)).toNatClampNeg) x1) ((105 + (a_M_now 6)).toNatClampNeg) x2) 6 (((upd (upd a_M_now ((95 + (a_M_now 6)).toNatClampNeg) x1) ((105 + (a_M_now 6)).toNatClampNeg) x2) 6) + 1)))) rfl (fun H locs hP hD hS => ?_)
        refine lv_iload_n hx hb dX11_sight_89 rfl (lv_at hl 0 rfl) ?_
        exact hret (a_M_now 6) a_M_refused (upd (upd (upd a_M_now ((95 + (a_M_now 6)).toNatClampNeg) x1) ((105 + (a_M_now 6)).toNatClampNeg) x2) 6 (((upd (upd a_M_now ((95 + (a_M_now 6)).toNatClampNeg) x1) ((105 + (a_M_now 6)).toNatClampNeg) x2) 6) + 1)) hg _ _ _ _ hP hS dX11_sight_90
      · have hg := zp hg h40
        refine lv_aload_n hx hb dX11_sight_43 rfl (lv_at hl 0 rfl) ?_
        refine lv_bipush (v := (-4)) hx hb dX11_sight_44 (by decide) ?_
        obtain ⟨v9, hc10, hg⟩ := zbd hg
        refine zcallV (rest := []) S (c_X11_refuse l D cI cJ cZ cA ga q_M q_M_refused (.ref q_M_now) u_M_images u_M_kept u_M_text u_M_size u_M_sign u_M_manyAbove u_M_manyBelow u_M_above u_M_below u_M_at u_M_begin u_M_kind u_M_value u_M_read u_M_acts u_M_act u_M_waits u_M_wait u_M_held u_M_place u_M_heap u_M_clocks u_M_counts u_M_talking u_M_most u_M_hasA u_M_hasB u_M_talks u_M_big a_M_refused (-4) v9 hc10) (zgV zw_223 zw_224 zw_225 zw_5 zw_226) rfl hd_X11_refuse ⟨rfl, rfl⟩ ⟨Nat.le_of_ble_eq_true rfl, Nat.le_of_ble_eq_true rfl⟩ 0 11 rfl rfl rfl hl.1 rfl (Nat.le_of_ble_eq_true rfl) dX11_sight_46 hP hD hS hA hK hG (isC := [0, 1]) rfl (by decide +kernel) rfl ⟨Nat.zero_le _, Nat.zero_le _⟩ (pl := [some 0, some 1, none]) (nw := 3) rfl (by decide +kernel) (w2 := (ws_X11_sight cI cJ cZ cA q_M q_M_refused q_M_now u_M_images u_M_kept u_M_text u_M_size u_M_sign u_M_manyAbove u_M_manyBelow u_M_above u_M_below u_M_at u_M_begin u_M_kind u_M_value u_M_read u_M_acts u_M_act u_M_waits u_M_wait u_M_held u_M_place u_M_heap u_M_clocks u_M_counts u_M_talking u_M_most u_M_hasA u_M_hasB u_M_talks u_M_big v9.2 a_M_now)) rfl (st1 := [.int v9.1]) rfl (fun H locs hP hD hS => ?_)
        exact hret v9.1 v9.2 a_M_now hg _ _ _ _ hP hS dX11_sight_49
    · have hg := zp hg h21
      exact B24 a_M_refused a_M_now _ _ _ (lv_sub hl [0] rfl) hP hD hS hg

/-! SpokenClockModel.clears(I)I -/
abbrev ws_X11_clears (cI cJ cZ cA : ClassId) (q_M q_M_now q_M_refused : Nat) (u_M_images : Value) (u_M_kept : Value) (u_M_text : Value) (u_M_size : Value) (u_M_sign : Value) (u_M_manyAbove : Value) (u_M_manyBelow : Value) (u_M_above : Value) (u_M_below : Value) (u_M_at : Value) (u_M_begin : Value) (u_M_kind : Value) (u_M_value : Value) (u_M_read : Value) (u_M_acts : Value) (u_M_act : Value) (u_M_waits : Value) (u_M_wait : Value) (u_M_held : Value) (u_M_place : Value) (u_M_heap : Value) (u_M_clocks : Value) (u_M_counts : Value) (u_M_talking : Value) (u_M_most : Value) (u_M_hasA : Value) (u_M_hasB : Value) (u_M_talks : Value) (u_M_big : Value) (a_M_now : Nat → Int32) (a_M_refused : Nat → Int32) : va_W := [(q_M, .inr (11, [.ref q_M_now, u_M_images, u_M_kept, u_M_text, u_M_size, u_M_sign, u_M_manyAbove, u_M_manyBelow, u_M_above, u_M_below, .ref q_M_refused, u_M_at, u_M_begin, u_M_kind, u_M_value, u_M_read, u_M_acts, u_M_act, u_M_waits, u_M_wait, u_M_held, u_M_place, u_M_heap, u_M_clocks, u_M_counts, u_M_talking, u_M_most, u_M_hasA, u_M_hasB, u_M_talks, u_M_big])), (q_M_now, .inl (cI, 155, .inl a_M_now)), (q_M_refused, .inl (cI, 3, .inl a_M_refused))]
abbrev rm_X11_clears : Room := { frames := 1, cells := 0, slots := 0, locals := 25 }
def g_X11_clears (x1 : Int32) (a_M_now : Nat → Int32) (a_M_refused : Nat → Int32) : Option (Int32 × (Nat → Int32) × (Nat → Int32)) :=
  (g_X11_in x1.toInt64 (0 : Int64) (2 : Int64)).bind fun v1 =>
  if v1 = 0 then (
    (g_X11_refuse (-2) a_M_refused).bind fun v5 =>
    some (v5.1, a_M_now, v5.2)
  ) else (
    if (4 + x1) < 0 ∨ 155 ≤ (4 + x1).toNatClampNeg then none else
    if (4 + x1) < 0 ∨ 155 ≤ (4 + x1).toNatClampNeg then none else
    some (a_M_now ((4 + x1).toNatClampNeg), upd a_M_now ((4 + x1).toNatClampNeg) 0, a_M_refused)
  )
theorem hd_X11_clears : yX11_clears.cls = RX11 ∧ yX11_clears.cls ≠ "java/lang/invoke/MethodHandle" ∧ yX11_clears.cls ≠ "java/lang/invoke/VarHandle" ∧ (parseMethodDescriptor yX11_clears.desc).map (fun d => d.parameters.length) = some 1 := by decide +kernel
set_option maxHeartbeats 4000000 in
set_option maxRecDepth 100000 in
theorem c_X11_clears (l : Launch) (D : va_G) (cI cJ cZ cA : ClassId) (ga : Nat → Nat) (q_M q_M_now q_M_refused : Nat) (u_M_images : Value) (u_M_kept : Value) (u_M_text : Value) (u_M_size : Value) (u_M_sign : Value) (u_M_manyAbove : Value) (u_M_manyBelow : Value) (u_M_above : Value) (u_M_below : Value) (u_M_at : Value) (u_M_begin : Value) (u_M_kind : Value) (u_M_value : Value) (u_M_read : Value) (u_M_acts : Value) (u_M_act : Value) (u_M_waits : Value) (u_M_wait : Value) (u_M_held : Value) (u_M_place : Value) (u_M_heap : Value) (u_M_clocks : Value) (u_M_counts : Value) (u_M_talking : Value) (u_M_most : Value) (u_M_hasA : Value) (u_M_hasB : Value) (u_M_talks : Value) (u_M_big : Value) (a_M_now : Nat → Int32) (a_M_refused : Nat → Int32) (x1 : Int32) (o : Int32 × (Nat → Int32) × (Nat → Int32)) (hg : g_X11_clears x1 a_M_now a_M_refused = some o) : zM l yX11_clears (Cond.code yX11_clears cX11_clears 3 (some .int) :: wsL_law) rm_X11_clears D (zTy cI cJ cZ cA) ga [.ref q_M, .int x1] (ws_X11_clears cI cJ cZ cA q_M q_M_now q_M_refused u_M_images u_M_kept u_M_text u_M_size u_M_sign u_M_manyAbove u_M_manyBelow u_M_above u_M_below u_M_at u_M_begin u_M_kind u_M_value u_M_read u_M_acts u_M_act u_M_waits u_M_wait u_M_held u_M_place u_M_heap u_M_clocks u_M_counts u_M_talking u_M_most u_M_hasA u_M_hasB u_M_talks u_M_big a_M_now a_M_refused) (ws_X11_clears cI cJ cZ cA q_M q_M_now q_M_refused u_M_images u_M_kept u_M_text u_M_size u_M_sign u_M_manyAbove u_M_manyBelow u_M_above u_M_below u_M_at u_M_begin u_M_kind u_M_value u_M_read u_M_acts u_M_act u_M_waits u_M_wait u_M_held u_M_place u_M_heap u_M_clocks u_M_counts u_M_talking u_M_most u_M_hasA u_M_hasB u_M_talks u_M_big o.2.1 o.2.2) (some (.int o.1)) := by
  refine zenterI (own := RX11) (by decide) rfl rfl (Nat.le_of_ble_eq_true rfl) ?_
  intro p e s m args below meth c A ls Q S hA hK hG hl hP hD hS hret0
  have hx := S.1
  have hb := S.2.1
  have ht : ∀ w, w ∈ wsL_law → w.before args s = true := fun w h => S.2.2.2.2 w (List.mem_cons_of_mem _ h)
  have hret : ∀ (r9 : Int32) (a_M_now : Nat → Int32) (a_M_refused : Nat → Int32), (some (r9, a_M_now, a_M_refused) : Option (Int32 × (Nat → Int32) × (Nat → Int32))) = some o → ∀ (H : Heap) (locs : List Loc) (pc : Nat) (ls : Array Slot), va_P D vwCl (ws_X11_clears cI cJ cZ cA q_M q_M_now q_M_refused u_M_images u_M_kept u_M_text u_M_size u_M_sign u_M_manyAbove u_M_manyBelow u_M_above u_M_below u_M_at u_M_begin u_M_kind u_M_value u_M_read u_M_acts u_M_act u_M_waits u_M_wait u_M_held u_M_place u_M_heap u_M_clocks u_M_counts u_M_talking u_M_most u_M_hasA u_M_hasB u_M_talks u_M_big a_M_now a_M_refused) H → va_S A s.heap H locs → decode cX11_clears pc = .ok (.ireturn, 1) → W p l e rm_X11_clears s m args below meth c H locs 0 0 Q (F0 m pc ls [.int r9]) := by
    intro r9 a_M_now a_M_refused he; cases he; exact hret0
  have hl : lv_has ls 3 [(0, .ref q_M), (1, .int x1)] := hl
  refine lv_iload_n hx hb dX11_clears_0 rfl (lv_at hl 1 rfl) ?_
  refine lv_i2l hx hb dX11_clears_1 rfl ?_
  refine lv_lconst (v := 0) hx hb dX11_clears_2 (by decide) ?_
  refine lv_ldc2 (v := 2) hx hb S.2.2.2.1 (ht _ zw_293) dX11_clears_3 ?_
  obtain ⟨v1, hc2, hg⟩ := zbd hg
  refine zcallS (rest := []) S (c_X11_in l D cI cJ cZ cA ga x1.toInt64 (0 : Int64) (2 : Int64) v1 hc2) (zgS zw_220 zw_221 zw_5 zw_222) rfl hd_X11_in ⟨rfl, rfl⟩ ⟨Nat.le_of_ble_eq_true rfl, Nat.le_of_ble_eq_true rfl⟩ rfl hl.1 rfl (Nat.le_of_ble_eq_true rfl) dX11_clears_6 hP hD hS hA hK hG (isC := []) rfl (by decide +kernel) rfl ⟨Nat.zero_le _, Nat.zero_le _⟩ (pl := [none, none, none]) (nw := 3) rfl (by decide +kernel) (w2 := (ws_X11_clears cI cJ cZ cA q_M q_M_now q_M_refused u_M_images u_M_kept u_M_text u_M_size u_M_sign u_M_manyAbove u_M_manyBelow u_M_above u_M_below u_M_at u_M_begin u_M_kind u_M_value u_M_read u_M_acts u_M_act u_M_waits u_M_wait u_M_held u_M_place u_M_heap u_M_clocks u_M_counts u_M_talking u_M_most u_M_hasA u_M_hasB u_M_talks u_M_big a_M_now a_M_refused)) rfl (st1 := [.int v1]) rfl (fun H locs hP hD hS => ?_)
  refine lv_if_ne (tgt := 19) hx hb dX11_clears_9 (by decide) (fun h9 => ?_) (fun h9 => ?_)
  · have hg := zn hg h9
    refine lv_aload_n hx hb dX11_clears_19 rfl (lv_at hl 0 rfl) ?_
    refine zget (C := RX11) (T := TX11) (N := 31) S hK hP 0 rfl rfl 0 (Nat.le_of_ble_eq_true rfl) zf_11 zw_149 rfl dX11_clears_20 ?_
    refine lv_iconst (v := 4) hx hb dX11_clears_23 (by decide) ?_
    refine lv_iload_n hx hb dX11_clears_24 rfl (lv_at hl 1 rfl) ?_
    refine lv_iadd hx hb dX11_clears_25 ?_
    obtain ⟨h3, hg⟩ := zck hg
    refine ziald hx hb hK hP 1 0 rfl rfl (j := ((4 + x1).toNatClampNeg)) h3 rfl dX11_clears_26 ?_
    refine lv_istore_n (lv' := [(2, .int (a_M_now ((4 + x1).toNatClampNeg))), (0, .ref q_M), (1, .int x1)]) hx hb dX11_clears_27 rfl hl (by decide) rfl (fun ls hl => ?_)
    refine lv_aload_n hx hb dX11_clears_28 rfl (lv_at hl 1 rfl) ?_
    refine zget (C := RX11) (T := TX11) (N := 31) S hK hP 0 rfl rfl 0 (Nat.le_of_ble_eq_true rfl) zf_11 zw_149 rfl dX11_clears_29 ?_
    refine lv_iconst (v := 4) hx hb dX11_clears_32 (by decide) ?_
    refine lv_iload_n hx hb dX11_clears_33 rfl (lv_at hl 2 rfl) ?_
    refine lv_iadd hx hb dX11_clears_34 ?_
    refine lv_iconst (v := 0) hx hb dX11_clears_35 (by decide) ?_
    obtain ⟨h4, hg⟩ := zck hg
    refine ziast hx hb hK hP hD hS 1 0 rfl rfl (j := ((4 + x1).toNatClampNeg)) h4 rfl dX11_clears_36 (w2 := (ws_X11_clears cI cJ cZ cA q_M q_M_now q_M_refused u_M_images u_M_kept u_M_text u_M_size u_M_sign u_M_manyAbove u_M_manyBelow u_M_above u_M_below u_M_at u_M_begin u_M_kind u_M_value u_M_read u_M_acts u_M_act u_M_waits u_M_wait u_M_held u_M_place u_M_heap u_M_clocks u_M_counts u_M_talking u_M_most u_M_hasA u_M_hasB u_M_talks u_M_big (upd a_M_now ((4 + x1).toNatClampNeg) 0) a_M_refused)) rfl (fun H locs hP hD hS => ?_)
    refine lv_iload_n hx hb dX11_clears_37 rfl (lv_at hl 0 rfl) ?_
    exact hret (a_M_now ((4 + x1).toNatClampNeg)) (upd a_M_now ((4 + x1).toNatClampNeg) 0) a_M_refused hg _ _ _ _ hP hS dX11_clears_38
  · have hg := zp hg h9
    refine lv_aload_n hx hb dX11_clears_12 rfl (lv_at hl 0 rfl) ?_
    refine lv_bipush (v := (-2)) hx hb dX11_clears_13 (by decide) ?_
    obtain ⟨v5, hc6, hg⟩ := zbd hg
    refine zcallV (rest := []) S (c_X11_refuse l D cI cJ cZ cA ga q_M q_M_refused (.ref q_M_now) u_M_images u_M_kept u_M_text u_M_size u_M_sign u_M_manyAbove u_M_manyBelow u_M_above u_M_below u_M_at u_M_begin u_M_kind u_M_value u_M_read u_M_acts u_M_act u_M_waits u_M_wait u_M_held u_M_place u_M_heap u_M_clocks u_M_counts u_M_talking u_M_most u_M_hasA u_M_hasB u_M_talks u_M_big a_M_refused (-2) v5 hc6) (zgV zw_223 zw_224 zw_225 zw_5 zw_226) rfl hd_X11_refuse ⟨rfl, rfl⟩ ⟨Nat.le_of_ble_eq_true rfl, Nat.le_of_ble_eq_true rfl⟩ 0 11 rfl rfl rfl hl.1 rfl (Nat.le_of_ble_eq_true rfl) dX11_clears_15 hP hD hS hA hK hG (isC := [0, 2]) rfl (by decide +kernel) rfl ⟨Nat.zero_le _, Nat.zero_le _⟩ (pl := [some 0, none, some 1]) (nw := 3) rfl (by decide +kernel) (w2 := (ws_X11_clears cI cJ cZ cA q_M q_M_now q_M_refused u_M_images u_M_kept u_M_text u_M_size u_M_sign u_M_manyAbove u_M_manyBelow u_M_above u_M_below u_M_at u_M_begin u_M_kind u_M_value u_M_read u_M_acts u_M_act u_M_waits u_M_wait u_M_held u_M_place u_M_heap u_M_clocks u_M_counts u_M_talking u_M_most u_M_hasA u_M_hasB u_M_talks u_M_big a_M_now v5.2)) rfl (st1 := [.int v5.1]) rfl (fun H locs hP hD hS => ?_)
    exact hret v5.1 a_M_now v5.2 hg _ _ _ _ hP hS dX11_clears_18

/-! SpokenClockModel.type(JI)I -/
abbrev ws_X11_type (cI cJ cZ cA : ClassId) (q_M q_M_text q_M_refused : Nat) (u_M_now : Value) (u_M_images : Value) (u_M_kept : Value) (u_M_sign : Value) (u_M_manyAbove : Value) (u_M_manyBelow : Value) (u_M_above : Value) (u_M_below : Value) (u_M_at : Value) (u_M_begin : Value) (u_M_kind : Value) (u_M_value : Value) (u_M_read : Value) (u_M_acts : Value) (u_M_act : Value) (u_M_waits : Value) (u_M_wait : Value) (u_M_held : Value) (u_M_place : Value) (u_M_heap : Value) (u_M_clocks : Value) (u_M_counts : Value) (u_M_talking : Value) (u_M_most : Value) (u_M_hasA : Value) (u_M_hasB : Value) (u_M_talks : Value) (u_M_big : Value) (v_M_size : Int32) (a_M_text : Nat → Int32) (a_M_refused : Nat → Int32) : va_W := [(q_M, .inr (11, [u_M_now, u_M_images, u_M_kept, .ref q_M_text, .int v_M_size, u_M_sign, u_M_manyAbove, u_M_manyBelow, u_M_above, u_M_below, .ref q_M_refused, u_M_at, u_M_begin, u_M_kind, u_M_value, u_M_read, u_M_acts, u_M_act, u_M_waits, u_M_wait, u_M_held, u_M_place, u_M_heap, u_M_clocks, u_M_counts, u_M_talking, u_M_most, u_M_hasA, u_M_hasB, u_M_talks, u_M_big])), (q_M_text, .inl (cI, 250, .inl a_M_text)), (q_M_refused, .inl (cI, 3, .inl a_M_refused))]
abbrev rm_X11_type : Room := { frames := 1, cells := 0, slots := 0, locals := 25 }
def g_X11_type_43b (x1 : Int64) (x3 : Int32) (k43 : Int32 → Int32 → (Nat → Int32) → (Nat → Int32) → Option (Int32 × Int32 × (Nat → Int32) × (Nat → Int32))) (x4 : Int32) (v_M_size : Int32) (a_M_text : Nat → Int32) (a_M_refused : Nat → Int32) : Option (Int32 × Int32 × (Nat → Int32) × (Nat → Int32)) :=
  if x4 < 0 then (
    some (v_M_size, v_M_size, a_M_text, a_M_refused)
  ) else (
    if v_M_size < 0 ∨ 250 ≤ v_M_size.toNatClampNeg then none else
    k43 (x4 + (-1)) (v_M_size + 1) (upd a_M_text (v_M_size.toNatClampNeg) (((x1 >>> ((8 * x4).toInt64 &&& 63)) &&& (255 : Int64)).toInt32)) a_M_refused
  )
def g_X11_type_43 (x1 : Int64) (x3 : Int32) : Nat → Int32 → Int32 → (Nat → Int32) → (Nat → Int32) → Option (Int32 × Int32 × (Nat → Int32) × (Nat → Int32))
  | 0, _, _, _, _ => none
  | n + 1, x4, v_M_size, a_M_text, a_M_refused => g_X11_type_43b x1 x3 (g_X11_type_43 x1 x3 n) x4 v_M_size a_M_text a_M_refused
def g_X11_type (x1 : Int64) (x3 : Int32) (v_M_size : Int32) (a_M_text : Nat → Int32) (a_M_refused : Nat → Int32) : Option (Int32 × Int32 × (Nat → Int32) × (Nat → Int32)) :=
  (g_X11_in x3.toInt64 (1 : Int64) (8 : Int64)).bind fun v1 =>
  if v1 = 0 then (
    (g_X11_refuse (-2) a_M_refused).bind fun v6 =>
    some (v6.1, v_M_size, a_M_text, v6.2)
  ) else (
    if (v_M_size + x3) ≤ 250 then (
      g_X11_type_43 x1 x3 zF (x3 - 1) v_M_size a_M_text a_M_refused
    ) else (
      (g_X11_refuse (-4) a_M_refused).bind fun v4 =>
      some (v4.1, v_M_size, a_M_text, v4.2)
    )
  )
theorem hd_X11_type : yX11_type.cls = RX11 ∧ yX11_type.cls ≠ "java/lang/invoke/MethodHandle" ∧ yX11_type.cls ≠ "java/lang/invoke/VarHandle" ∧ (parseMethodDescriptor yX11_type.desc).map (fun d => d.parameters.length) = some 2 := by decide +kernel
set_option maxHeartbeats 4000000 in
set_option maxRecDepth 100000 in
theorem c_X11_type (l : Launch) (D : va_G) (cI cJ cZ cA : ClassId) (ga : Nat → Nat) (q_M q_M_text q_M_refused : Nat) (u_M_now : Value) (u_M_images : Value) (u_M_kept : Value) (u_M_sign : Value) (u_M_manyAbove : Value) (u_M_manyBelow : Value) (u_M_above : Value) (u_M_below : Value) (u_M_at : Value) (u_M_begin : Value) (u_M_kind : Value) (u_M_value : Value) (u_M_read : Value) (u_M_acts : Value) (u_M_act : Value) (u_M_waits : Value) (u_M_wait : Value) (u_M_held : Value) (u_M_place : Value) (u_M_heap : Value) (u_M_clocks : Value) (u_M_counts : Value) (u_M_talking : Value) (u_M_most : Value) (u_M_hasA : Value) (u_M_hasB : Value) (u_M_talks : Value) (u_M_big : Value) (v_M_size : Int32) (a_M_text : Nat → Int32) (a_M_refused : Nat → Int32) (x1 : Int64) (x3 : Int32) (o : Int32 × Int32 × (Nat → Int32) × (Nat → Int32)) (hg : g_X11_type x1 x3 v_M_size a_M_text a_M_refused = some o) : zM l yX11_type (Cond.code yX11_type cX11_type 5 (some .int) :: wsL_law) rm_X11_type D (zTy cI cJ cZ cA) ga [.ref q_M, .long x1, .int x3] (ws_X11_type cI cJ cZ cA q_M q_M_text q_M_refused u_M_now u_M_images u_M_kept u_M_sign u_M_manyAbove u_M_manyBelow u_M_above u_M_below u_M_at u_M_begin u_M_kind u_M_value u_M_read u_M_acts u_M_act u_M_waits u_M_wait u_M_held u_M_place u_M_heap u_M_clocks u_M_counts u_M_talking u_M_most u_M_hasA u_M_hasB u_M_talks u_M_big v_M_size a_M_text a_M_refused) (ws_X11_type cI cJ cZ cA q_M q_M_text q_M_refused u_M_now u_M_images u_M_kept u_M_sign u_M_manyAbove u_M_manyBelow u_M_above u_M_below u_M_at u_M_begin u_M_kind u_M_value u_M_read u_M_acts u_M_act u_M_waits u_M_wait u_M_held u_M_place u_M_heap u_M_clocks u_M_counts u_M_talking u_M_most u_M_hasA u_M_hasB u_M_talks u_M_big o.2.1 o.2.2.1 o.2.2.2) (some (.int o.1)) := by
  refine zenterI (own := RX11) (by decide) rfl rfl (Nat.le_of_ble_eq_true rfl) ?_
  intro p e s m args below meth c A ls Q S hA hK hG hl hP hD hS hret0
  have hx := S.1
  have hb := S.2.1
  have ht : ∀ w, w ∈ wsL_law → w.before args s = true := fun w h => S.2.2.2.2 w (List.mem_cons_of_mem _ h)
  have hret : ∀ (r9 : Int32) (v_M_size : Int32) (a_M_text : Nat → Int32) (a_M_refused : Nat → Int32), (some (r9, v_M_size, a_M_text, a_M_refused) : Option (Int32 × Int32 × (Nat → Int32) × (Nat → Int32))) = some o → ∀ (H : Heap) (locs : List Loc) (pc : Nat) (ls : Array Slot), va_P D vwCl (ws_X11_type cI cJ cZ cA q_M q_M_text q_M_refused u_M_now u_M_images u_M_kept u_M_sign u_M_manyAbove u_M_manyBelow u_M_above u_M_below u_M_at u_M_begin u_M_kind u_M_value u_M_read u_M_acts u_M_act u_M_waits u_M_wait u_M_held u_M_place u_M_heap u_M_clocks u_M_counts u_M_talking u_M_most u_M_hasA u_M_hasB u_M_talks u_M_big v_M_size a_M_text a_M_refused) H → va_S A s.heap H locs → decode cX11_type pc = .ok (.ireturn, 1) → W p l e rm_X11_type s m args below meth c H locs 0 0 Q (F0 m pc ls [.int r9]) := by
    intro r9 v_M_size a_M_text a_M_refused he; cases he; exact hret0
  have hl : lv_has ls 5 [(0, .ref q_M), (1, .long x1), (3, .int x3)] := hl
  have B43 : ∀  (n : Nat) (x4 : Int32) (v_M_size : Int32) (a_M_text : Nat → Int32) (a_M_refused : Nat → Int32) (H : Heap) (locs : List Loc) (ls : Array Slot) (hl : lv_has ls 5 [(0, .ref q_M), (1, .long x1), (4, .int x4)]) (hP : va_P D vwCl (ws_X11_type cI cJ cZ cA q_M q_M_text q_M_refused u_M_now u_M_images u_M_kept u_M_sign u_M_manyAbove u_M_manyBelow u_M_above u_M_below u_M_at u_M_begin u_M_kind u_M_value u_M_read u_M_acts u_M_act u_M_waits u_M_wait u_M_held u_M_place u_M_heap u_M_clocks u_M_counts u_M_talking u_M_most u_M_hasA u_M_hasB u_M_talks u_M_big v_M_size a_M_text a_M_refused) H) (hD : va_D A (ws_X11_type cI cJ cZ cA q_M q_M_text q_M_refused u_M_now u_M_images u_M_kept u_M_sign u_M_manyAbove u_M_manyBelow u_M_above u_M_below u_M_at u_M_begin u_M_kind u_M_value u_M_read u_M_acts u_M_act u_M_waits u_M_wait u_M_held u_M_place u_M_heap u_M_clocks u_M_counts u_M_talking u_M_most u_M_hasA u_M_hasB u_M_talks u_M_big v_M_size a_M_text a_M_refused)) (hS : va_S A s.heap H locs), g_X11_type_43 x1 x3 n x4 v_M_size a_M_text a_M_refused = some o → W p l e rm_X11_type s m args below meth c H locs 0 0 Q (F0 m 43 ls []) := by
    intro  n
    induction n with
    | zero => intro x4 v_M_size a_M_text a_M_refused H locs ls hl hP hD hS hg; exact nomatch (show (none : Option (Int32 × Int32 × (Nat → Int32) × (Nat → Int32))) = some o from hg)
    | succ n ih =>
      intro x4 v_M_size a_M_text a_M_refused H locs ls hl hP hD hS hg
      have hg : g_X11_type_43b x1 x3 (g_X11_type_43 x1 x3 n) x4 v_M_size a_M_text a_M_refused = some o := hg
      refine lv_iload hx hb dX11_type_43 (lv_at hl 2 rfl) ?_
      refine lv_if_lt (tgt := 85) hx hb dX11_type_45 (by decide) (fun h45 => ?_) (fun h45 => ?_)
      · have hg := zp hg h45
        refine lv_aload_n hx hb dX11_type_85 rfl (lv_at hl 0 rfl) ?_
        refine zget (C := RX11) (T := TX11) (N := 31) S hK hP 0 rfl rfl 4 (Nat.le_of_ble_eq_true rfl) zf_11 zw_308 rfl dX11_type_86 ?_
        exact hret v_M_size v_M_size a_M_text a_M_refused hg _ _ _ _ hP hS dX11_type_89
      · have hg := zn hg h45
        refine lv_aload_n hx hb dX11_type_48 rfl (lv_at hl 0 rfl) ?_
        refine zget (C := RX11) (T := TX11) (N := 31) S hK hP 0 rfl rfl 3 (Nat.le_of_ble_eq_true rfl) zf_11 zw_152 rfl dX11_type_49 ?_
        refine lv_aload_n hx hb dX11_type_52 rfl (lv_at hl 0 rfl) ?_
        refine zget (C := RX11) (T := TX11) (N := 31) S hK hP 0 rfl rfl 4 (Nat.le_of_ble_eq_true rfl) zf_11 zw_308 rfl dX11_type_53 ?_
        refine lv_lload_n hx hb dX11_type_56 rfl (lv_at hl 1 rfl) ?_
        refine lv_bipush (v := 8) hx hb dX11_type_57 (by decide) ?_
        refine lv_iload hx hb dX11_type_59 (lv_at hl 2 rfl) ?_
        refine lv_imul hx hb dX11_type_61 ?_
        refine lv_lshr hx hb dX11_type_62 rfl ?_
        refine lv_ldc2 (v := 255) hx hb S.2.2.2.1 (ht _ zw_309) dX11_type_63 ?_
        refine lv_land hx hb dX11_type_66 ?_
        refine lv_l2i hx hb dX11_type_67 rfl ?_
        obtain ⟨h3, hg⟩ := zck hg
        refine ziast hx hb hK hP hD hS 1 0 rfl rfl (j := (v_M_size.toNatClampNeg)) h3 rfl dX11_type_68 (w2 := (ws_X11_type cI cJ cZ cA q_M q_M_text q_M_refused u_M_now u_M_images u_M_kept u_M_sign u_M_manyAbove u_M_manyBelow u_M_above u_M_below u_M_at u_M_begin u_M_kind u_M_value u_M_read u_M_acts u_M_act u_M_waits u_M_wait u_M_held u_M_place u_M_heap u_M_clocks u_M_counts u_M_talking u_M_most u_M_hasA u_M_hasB u_M_talks u_M_big v_M_size (upd a_M_text (v_M_size.toNatClampNeg) (((x1 >>> ((8 * x4).toInt64 &&& 63)) &&& (255 : Int64)).toInt32)) a_M_refused)) rfl (fun H locs hP hD hS => ?_)
        refine lv_aload_n hx hb dX11_type_69 rfl (lv_at hl 0 rfl) ?_
        refine lv_dup hx hb dX11_type_70 rfl ?_
        refine zget (C := RX11) (T := TX11) (N := 31) S hK hP 0 rfl rfl 4 (Nat.le_of_ble_eq_true rfl) zf_11 zw_308 rfl dX11_type_71 ?_
        refine lv_iconst (v := 1) hx hb dX11_type_74 (by decide) ?_
        refine lv_iadd hx hb dX11_type_75 ?_
        refine zputf (C := RX11) (T := TX11) (N := 31) (ty := .int) S hK hP hD hS 0 rfl rfl 4 (Nat.le_of_ble_eq_true rfl) zf_11 tyX11 tyX11_ok nmX11 zw_308 rfl (by decide +kernel) rfl rfl (Nat.le_of_ble_eq_true rfl) dX11_type_76 (w2 := (ws_X11_type cI cJ cZ cA q_M q_M_text q_M_refused u_M_now u_M_images u_M_kept u_M_sign u_M_manyAbove u_M_manyBelow u_M_above u_M_below u_M_at u_M_begin u_M_kind u_M_value u_M_read u_M_acts u_M_act u_M_waits u_M_wait u_M_held u_M_place u_M_heap u_M_clocks u_M_counts u_M_talking u_M_most u_M_hasA u_M_hasB u_M_talks u_M_big (v_M_size + 1) (upd a_M_text (v_M_size.toNatClampNeg) (((x1 >>> ((8 * x4).toInt64 &&& 63)) &&& (255 : Int64)).toInt32)) a_M_refused)) rfl (fun H locs hP hD hS => ?_)
        refine lv_iinc (k := 2) (v := x4 + (-1)) (lv' := [(4, .int (x4 + (-1))), (0, .ref q_M), (1, .long x1)]) hx hb dX11_type_79 hl rfl (zinc (by decide)) (by decide) rfl (fun ls hl => ?_)
        refine lv_goto (tgt := 43) hx hb dX11_type_82 (by decide) ?_
        exact ih (x4 + (-1)) (v_M_size + 1) (upd a_M_text (v_M_size.toNatClampNeg) (((x1 >>> ((8 * x4).toInt64 &&& 63)) &&& (255 : Int64)).toInt32)) a_M_refused _ _ _ (lv_sub hl [1, 2, 0] rfl) hP hD hS hg
  refine lv_iload_n hx hb dX11_type_0 rfl (lv_at hl 2 rfl) ?_
  refine lv_i2l hx hb dX11_type_1 rfl ?_
  refine lv_lconst (v := 1) hx hb dX11_type_2 (by decide) ?_
  refine lv_ldc2 (v := 8) hx hb S.2.2.2.1 (ht _ zw_307) dX11_type_3 ?_
  obtain ⟨v1, hc2, hg⟩ := zbd hg
  refine zcallS (rest := []) S (c_X11_in l D cI cJ cZ cA ga x3.toInt64 (1 : Int64) (8 : Int64) v1 hc2) (zgS zw_220 zw_221 zw_5 zw_222) rfl hd_X11_in ⟨rfl, rfl⟩ ⟨Nat.le_of_ble_eq_true rfl, Nat.le_of_ble_eq_true rfl⟩ rfl hl.1 rfl (Nat.le_of_ble_eq_true rfl) dX11_type_6 hP hD hS hA hK hG (isC := []) rfl (by decide +kernel) rfl ⟨Nat.zero_le _, Nat.zero_le _⟩ (pl := [none, none, none]) (nw := 3) rfl (by decide +kernel) (w2 := (ws_X11_type cI cJ cZ cA q_M q_M_text q_M_refused u_M_now u_M_images u_M_kept u_M_sign u_M_manyAbove u_M_manyBelow u_M_above u_M_below u_M_at u_M_begin u_M_kind u_M_value u_M_read u_M_acts u_M_act u_M_waits u_M_wait u_M_held u_M_place u_M_heap u_M_clocks u_M_counts u_M_talking u_M_most u_M_hasA u_M_hasB u_M_talks u_M_big v_M_size a_M_text a_M_refused)) rfl (st1 := [.int v1]) rfl (fun H locs hP hD hS => ?_)
  refine lv_if_ne (tgt := 19) hx hb dX11_type_9 (by decide) (fun h9 => ?_) (fun h9 => ?_)
  · have hg := zn hg h9
    refine lv_aload_n hx hb dX11_type_19 rfl (lv_at hl 0 rfl) ?_
    refine zget (C := RX11) (T := TX11) (N := 31) S hK hP 0 rfl rfl 4 (Nat.le_of_ble_eq_true rfl) zf_11 zw_308 rfl dX11_type_20 ?_
    refine lv_iload_n hx hb dX11_type_23 rfl (lv_at hl 2 rfl) ?_
    refine lv_iadd hx hb dX11_type_24 ?_
    refine lv_sipush (v := 250) hx hb dX11_type_25 (by decide) ?_
    refine lv_icmp_le (tgt := 38) hx hb dX11_type_28 (by decide) (fun h28 => ?_) (fun h28 => ?_)
    · have hg := zp hg h28
      refine lv_iload_n hx hb dX11_type_38 rfl (lv_at hl 2 rfl) ?_
      refine lv_iconst (v := 1) hx hb dX11_type_39 (by decide) ?_
      refine lv_isub hx hb dX11_type_40 ?_
      refine lv_istore (lv' := [(4, .int (x3 - 1)), (0, .ref q_M), (1, .long x1), (3, .int x3)]) hx hb dX11_type_41 hl (by decide) rfl (fun ls hl => ?_)
      exact B43 zF (x3 - 1) v_M_size a_M_text a_M_refused _ _ _ (lv_sub hl [1, 2, 0] rfl) hP hD hS hg
    · have hg := zn hg h28
      refine lv_aload_n hx hb dX11_type_31 rfl (lv_at hl 0 rfl) ?_
      refine lv_bipush (v := (-4)) hx hb dX11_type_32 (by decide) ?_
      obtain ⟨v4, hc5, hg⟩ := zbd hg
      refine zcallV (rest := []) S (c_X11_refuse l D cI cJ cZ cA ga q_M q_M_refused u_M_now u_M_images u_M_kept (.ref q_M_text) (.int v_M_size) u_M_sign u_M_manyAbove u_M_manyBelow u_M_above u_M_below u_M_at u_M_begin u_M_kind u_M_value u_M_read u_M_acts u_M_act u_M_waits u_M_wait u_M_held u_M_place u_M_heap u_M_clocks u_M_counts u_M_talking u_M_most u_M_hasA u_M_hasB u_M_talks u_M_big a_M_refused (-4) v4 hc5) (zgV zw_223 zw_224 zw_225 zw_5 zw_226) rfl hd_X11_refuse ⟨rfl, rfl⟩ ⟨Nat.le_of_ble_eq_true rfl, Nat.le_of_ble_eq_true rfl⟩ 0 11 rfl rfl rfl hl.1 rfl (Nat.le_of_ble_eq_true rfl) dX11_type_34 hP hD hS hA hK hG (isC := [0, 2]) rfl (by decide +kernel) rfl ⟨Nat.zero_le _, Nat.zero_le _⟩ (pl := [some 0, none, some 1]) (nw := 3) rfl (by decide +kernel) (w2 := (ws_X11_type cI cJ cZ cA q_M q_M_text q_M_refused u_M_now u_M_images u_M_kept u_M_sign u_M_manyAbove u_M_manyBelow u_M_above u_M_below u_M_at u_M_begin u_M_kind u_M_value u_M_read u_M_acts u_M_act u_M_waits u_M_wait u_M_held u_M_place u_M_heap u_M_clocks u_M_counts u_M_talking u_M_most u_M_hasA u_M_hasB u_M_talks u_M_big v_M_size a_M_text v4.2)) rfl (st1 := [.int v4.1]) rfl (fun H locs hP hD hS => ?_)
      exact hret v4.1 v_M_size a_M_text v4.2 hg _ _ _ _ hP hS dX11_type_37
  · have hg := zp hg h9
    refine lv_aload_n hx hb dX11_type_12 rfl (lv_at hl 0 rfl) ?_
    refine lv_bipush (v := (-2)) hx hb dX11_type_13 (by decide) ?_
    obtain ⟨v6, hc7, hg⟩ := zbd hg
    refine zcallV (rest := []) S (c_X11_refuse l D cI cJ cZ cA ga q_M q_M_refused u_M_now u_M_images u_M_kept (.ref q_M_text) (.int v_M_size) u_M_sign u_M_manyAbove u_M_manyBelow u_M_above u_M_below u_M_at u_M_begin u_M_kind u_M_value u_M_read u_M_acts u_M_act u_M_waits u_M_wait u_M_held u_M_place u_M_heap u_M_clocks u_M_counts u_M_talking u_M_most u_M_hasA u_M_hasB u_M_talks u_M_big a_M_refused (-2) v6 hc7) (zgV zw_223 zw_224 zw_225 zw_5 zw_226) rfl hd_X11_refuse ⟨rfl, rfl⟩ ⟨Nat.le_of_ble_eq_true rfl, Nat.le_of_ble_eq_true rfl⟩ 0 11 rfl rfl rfl hl.1 rfl (Nat.le_of_ble_eq_true rfl) dX11_type_15 hP hD hS hA hK hG (isC := [0, 2]) rfl (by decide +kernel) rfl ⟨Nat.zero_le _, Nat.zero_le _⟩ (pl := [some 0, none, some 1]) (nw := 3) rfl (by decide +kernel) (w2 := (ws_X11_type cI cJ cZ cA q_M q_M_text q_M_refused u_M_now u_M_images u_M_kept u_M_sign u_M_manyAbove u_M_manyBelow u_M_above u_M_below u_M_at u_M_begin u_M_kind u_M_value u_M_read u_M_acts u_M_act u_M_waits u_M_wait u_M_held u_M_place u_M_heap u_M_clocks u_M_counts u_M_talking u_M_most u_M_hasA u_M_hasB u_M_talks u_M_big v_M_size a_M_text v6.2)) rfl (st1 := [.int v6.1]) rfl (fun H locs hP hD hS => ?_)
    exact hret v6.1 v_M_size a_M_text v6.2 hg _ _ _ _ hP hS dX11_type_18

/-! SpokenClockModel.wipe()I -/
abbrev ws_X11_wipe (cI cJ cZ cA : ClassId) (q_M : Nat) (u_M_now : Value) (u_M_images : Value) (u_M_kept : Value) (u_M_text : Value) (u_M_sign : Value) (u_M_manyAbove : Value) (u_M_manyBelow : Value) (u_M_above : Value) (u_M_below : Value) (u_M_refused : Value) (u_M_at : Value) (u_M_begin : Value) (u_M_kind : Value) (u_M_value : Value) (u_M_read : Value) (u_M_acts : Value) (u_M_act : Value) (u_M_waits : Value) (u_M_wait : Value) (u_M_held : Value) (u_M_place : Value) (u_M_heap : Value) (u_M_clocks : Value) (u_M_counts : Value) (u_M_talking : Value) (u_M_most : Value) (u_M_hasA : Value) (u_M_hasB : Value) (u_M_talks : Value) (u_M_big : Value) (v_M_size : Int32) : va_W := [(q_M, .inr (11, [u_M_now, u_M_images, u_M_kept, u_M_text, .int v_M_size, u_M_sign, u_M_manyAbove, u_M_manyBelow, u_M_above, u_M_below, u_M_refused, u_M_at, u_M_begin, u_M_kind, u_M_value, u_M_read, u_M_acts, u_M_act, u_M_waits, u_M_wait, u_M_held, u_M_place, u_M_heap, u_M_clocks, u_M_counts, u_M_talking, u_M_most, u_M_hasA, u_M_hasB, u_M_talks, u_M_big]))]
abbrev rm_X11_wipe : Room := { frames := 0, cells := 0, slots := 0, locals := 0 }
def g_X11_wipe (v_M_size : Int32) : Option (Int32 × Int32) :=
  some (v_M_size, 0)
theorem hd_X11_wipe : yX11_wipe.cls = RX11 ∧ yX11_wipe.cls ≠ "java/lang/invoke/MethodHandle" ∧ yX11_wipe.cls ≠ "java/lang/invoke/VarHandle" ∧ (parseMethodDescriptor yX11_wipe.desc).map (fun d => d.parameters.length) = some 0 := by decide +kernel
set_option maxHeartbeats 4000000 in
set_option maxRecDepth 100000 in
theorem c_X11_wipe (l : Launch) (D : va_G) (cI cJ cZ cA : ClassId) (ga : Nat → Nat) (q_M : Nat) (u_M_now : Value) (u_M_images : Value) (u_M_kept : Value) (u_M_text : Value) (u_M_sign : Value) (u_M_manyAbove : Value) (u_M_manyBelow : Value) (u_M_above : Value) (u_M_below : Value) (u_M_refused : Value) (u_M_at : Value) (u_M_begin : Value) (u_M_kind : Value) (u_M_value : Value) (u_M_read : Value) (u_M_acts : Value) (u_M_act : Value) (u_M_waits : Value) (u_M_wait : Value) (u_M_held : Value) (u_M_place : Value) (u_M_heap : Value) (u_M_clocks : Value) (u_M_counts : Value) (u_M_talking : Value) (u_M_most : Value) (u_M_hasA : Value) (u_M_hasB : Value) (u_M_talks : Value) (u_M_big : Value) (v_M_size : Int32) (o : Int32 × Int32) (hg : g_X11_wipe v_M_size = some o) : zM l yX11_wipe (Cond.code yX11_wipe cX11_wipe 2 (some .int) :: wsL_law) rm_X11_wipe D (zTy cI cJ cZ cA) ga [.ref q_M] (ws_X11_wipe cI cJ cZ cA q_M u_M_now u_M_images u_M_kept u_M_text u_M_sign u_M_manyAbove u_M_manyBelow u_M_above u_M_below u_M_refused u_M_at u_M_begin u_M_kind u_M_value u_M_read u_M_acts u_M_act u_M_waits u_M_wait u_M_held u_M_place u_M_heap u_M_clocks u_M_counts u_M_talking u_M_most u_M_hasA u_M_hasB u_M_talks u_M_big v_M_size) (ws_X11_wipe cI cJ cZ cA q_M u_M_now u_M_images u_M_kept u_M_text u_M_sign u_M_manyAbove u_M_manyBelow u_M_above u_M_below u_M_refused u_M_at u_M_begin u_M_kind u_M_value u_M_read u_M_acts u_M_act u_M_waits u_M_wait u_M_held u_M_place u_M_heap u_M_clocks u_M_counts u_M_talking u_M_most u_M_hasA u_M_hasB u_M_talks u_M_big o.2) (some (.int o.1)) := by
  refine zenterI (own := RX11) (by decide) rfl rfl (Nat.le_of_ble_eq_true rfl) ?_
  intro p e s m args below meth c A ls Q S hA hK hG hl hP hD hS hret0
  have hx := S.1
  have hb := S.2.1
  have ht : ∀ w, w ∈ wsL_law → w.before args s = true := fun w h => S.2.2.2.2 w (List.mem_cons_of_mem _ h)
  have hret : ∀ (r9 : Int32) (v_M_size : Int32), (some (r9, v_M_size) : Option (Int32 × Int32)) = some o → ∀ (H : Heap) (locs : List Loc) (pc : Nat) (ls : Array Slot), va_P D vwCl (ws_X11_wipe cI cJ cZ cA q_M u_M_now u_M_images u_M_kept u_M_text u_M_sign u_M_manyAbove u_M_manyBelow u_M_above u_M_below u_M_refused u_M_at u_M_begin u_M_kind u_M_value u_M_read u_M_acts u_M_act u_M_waits u_M_wait u_M_held u_M_place u_M_heap u_M_clocks u_M_counts u_M_talking u_M_most u_M_hasA u_M_hasB u_M_talks u_M_big v_M_size) H → va_S A s.heap H locs → decode cX11_wipe pc = .ok (.ireturn, 1) → W p l e rm_X11_wipe s m args below meth c H locs 0 0 Q (F0 m pc ls [.int r9]) := by
    intro r9 v_M_size he; cases he; exact hret0
  have hl : lv_has ls 2 [(0, .ref q_M)] := hl
  refine lv_aload_n hx hb dX11_wipe_0 rfl (lv_at hl 0 rfl) ?_
  refine zget (C := RX11) (T := TX11) (N := 31) S hK hP 0 rfl rfl 4 (Nat.le_of_ble_eq_true rfl) zf_11 zw_308 rfl dX11_wipe_1 ?_
  refine lv_istore_n (lv' := [(1, .int v_M_size), (0, .ref q_M)]) hx hb dX11_wipe_4 rfl hl (by decide) rfl (fun ls hl => ?_)
  refine lv_aload_n hx hb dX11_wipe_5 rfl (lv_at hl 1 rfl) ?_
  refine lv_iconst (v := 0) hx hb dX11_wipe_6 (by decide) ?_
  refine zputf (C := RX11) (T := TX11) (N := 31) (ty := .int) S hK hP hD hS 0 rfl rfl 4 (Nat.le_of_ble_eq_true rfl) zf_11 tyX11 tyX11_ok nmX11 zw_308 rfl (by decide +kernel) rfl rfl (Nat.le_of_ble_eq_true rfl) dX11_wipe_7 (w2 := (ws_X11_wipe cI cJ cZ cA q_M u_M_now u_M_images u_M_kept u_M_text u_M_sign u_M_manyAbove u_M_manyBelow u_M_above u_M_below u_M_refused u_M_at u_M_begin u_M_kind u_M_value u_M_read u_M_acts u_M_act u_M_waits u_M_wait u_M_held u_M_place u_M_heap u_M_clocks u_M_counts u_M_talking u_M_most u_M_hasA u_M_hasB u_M_talks u_M_big 0)) rfl (fun H locs hP hD hS => ?_)
  refine lv_iload_n hx hb dX11_wipe_10 rfl (lv_at hl 0 rfl) ?_
  exact hret v_M_size 0 hg _ _ _ _ hP hS dX11_wipe_11

/-! SpokenClockModel.isLetter(I)Z -/
abbrev ws_X11_isLetter (cI cJ cZ cA : ClassId) : va_W := []
abbrev rm_X11_isLetter : Room := { frames := 1, cells := 0, slots := 0, locals := 25 }
def g_X11_isLetter (x0 : Int32) : Option (Int32) :=
  (g_X11_in x0.toInt64 (97 : Int64) (122 : Int64)).bind fun v1 =>
  if v1 = 0 ∨ v1 = 1 then
    some (v1)
  else none
theorem hd_X11_isLetter : yX11_isLetter.cls ≠ "java/lang/invoke/MethodHandle" ∧ yX11_isLetter.cls ≠ "java/lang/invoke/VarHandle" ∧ (parseMethodDescriptor yX11_isLetter.desc).map (fun d => d.parameters.length) = some 1 := by decide +kernel
set_option maxHeartbeats 4000000 in
set_option maxRecDepth 100000 in
theorem c_X11_isLetter (l : Launch) (D : va_G) (cI cJ cZ cA : ClassId) (ga : Nat → Nat) (x0 : Int32) (o : Int32) (hg : g_X11_isLetter x0 = some o) : zM l yX11_isLetter (Cond.code yX11_isLetter cX11_isLetter 1 (some .boolean) :: wsL_law) rm_X11_isLetter D (zTy cI cJ cZ cA) ga [.int x0] (ws_X11_isLetter cI cJ cZ cA) (ws_X11_isLetter cI cJ cZ cA) (some (.int o)) := by
  refine zenterN (own := RX11) (by decide) rfl rfl (Nat.le_of_ble_eq_true rfl) ?_
  intro p e s m args below meth c A ls Q S hA hK hG hl hP hD hS hret0
  have hx := S.1
  have hb := S.2.1
  have ht : ∀ w, w ∈ wsL_law → w.before args s = true := fun w h => S.2.2.2.2 w (List.mem_cons_of_mem _ h)
  have hret : ∀ (r9 : Int32), (some (r9) : Option (Int32)) = some o → narrow .boolean (.int r9) = .int r9 → ∀ (H : Heap) (locs : List Loc) (pc : Nat) (ls : Array Slot), va_P D vwCl (ws_X11_isLetter cI cJ cZ cA) H → va_S A s.heap H locs → decode cX11_isLetter pc = .ok (.ireturn, 1) → W p l e rm_X11_isLetter s m args below meth c H locs 0 0 Q (F0 m pc ls [.int r9]) := by
    intro r9 he; cases he; exact hret0
  have hl : lv_has ls 1 [(0, .int x0)] := hl
  refine lv_iload_n hx hb dX11_isLetter_0 rfl (lv_at hl 0 rfl) ?_
  refine lv_i2l hx hb dX11_isLetter_1 rfl ?_
  refine lv_ldc2 (v := 97) hx hb S.2.2.2.1 (ht _ zw_477) dX11_isLetter_2 ?_
  refine lv_ldc2 (v := 122) hx hb S.2.2.2.1 (ht _ zw_478) dX11_isLetter_5 ?_
  obtain ⟨v1, hc2, hg⟩ := zbd hg
  refine zcallS (rest := []) S (c_X11_in l D cI cJ cZ cA ga x0.toInt64 (97 : Int64) (122 : Int64) v1 hc2) (zgS zw_220 zw_221 zw_5 zw_222) rfl hd_X11_in ⟨rfl, rfl⟩ ⟨Nat.le_of_ble_eq_true rfl, Nat.le_of_ble_eq_true rfl⟩ rfl hl.1 rfl (Nat.le_of_ble_eq_true rfl) dX11_isLetter_8 hP hD hS hA hK hG (isC := []) rfl (by decide +kernel) rfl ⟨Nat.zero_le _, Nat.zero_le _⟩ (pl := []) (nw := 0) rfl (by decide +kernel) (w2 := (ws_X11_isLetter cI cJ cZ cA)) rfl (st1 := [.int v1]) rfl (fun H locs hP hD hS => ?_)
  obtain ⟨hz01, hg⟩ := zck2 hg
  exact hret v1 hg (zb01 hz01) _ _ _ _ hP hS dX11_isLetter_11

/-! SpokenClockModel.isFigure(I)Z -/
abbrev ws_X11_isFigure (cI cJ cZ cA : ClassId) : va_W := []
abbrev rm_X11_isFigure : Room := { frames := 1, cells := 0, slots := 0, locals := 25 }
def g_X11_isFigure (x0 : Int32) : Option (Int32) :=
  (g_X11_in x0.toInt64 (48 : Int64) (57 : Int64)).bind fun v1 =>
  if v1 = 0 ∨ v1 = 1 then
    some (v1)
  else none
theorem hd_X11_isFigure : yX11_isFigure.cls ≠ "java/lang/invoke/MethodHandle" ∧ yX11_isFigure.cls ≠ "java/lang/invoke/VarHandle" ∧ (parseMethodDescriptor yX11_isFigure.desc).map (fun d => d.parameters.length) = some 1 := by decide +kernel
set_option maxHeartbeats 4000000 in
set_option maxRecDepth 100000 in
theorem c_X11_isFigure (l : Launch) (D : va_G) (cI cJ cZ cA : ClassId) (ga : Nat → Nat) (x0 : Int32) (o : Int32) (hg : g_X11_isFigure x0 = some o) : zM l yX11_isFigure (Cond.code yX11_isFigure cX11_isFigure 1 (some .boolean) :: wsL_law) rm_X11_isFigure D (zTy cI cJ cZ cA) ga [.int x0] (ws_X11_isFigure cI cJ cZ cA) (ws_X11_isFigure cI cJ cZ cA) (some (.int o)) := by
  refine zenterN (own := RX11) (by decide) rfl rfl (Nat.le_of_ble_eq_true rfl) ?_
  intro p e s m args below meth c A ls Q S hA hK hG hl hP hD hS hret0
  have hx := S.1
  have hb := S.2.1
  have ht : ∀ w, w ∈ wsL_law → w.before args s = true := fun w h => S.2.2.2.2 w (List.mem_cons_of_mem _ h)
  have hret : ∀ (r9 : Int32), (some (r9) : Option (Int32)) = some o → narrow .boolean (.int r9) = .int r9 → ∀ (H : Heap) (locs : List Loc) (pc : Nat) (ls : Array Slot), va_P D vwCl (ws_X11_isFigure cI cJ cZ cA) H → va_S A s.heap H locs → decode cX11_isFigure pc = .ok (.ireturn, 1) → W p l e rm_X11_isFigure s m args below meth c H locs 0 0 Q (F0 m pc ls [.int r9]) := by
    intro r9 he; cases he; exact hret0
  have hl : lv_has ls 1 [(0, .int x0)] := hl
  refine lv_iload_n hx hb dX11_isFigure_0 rfl (lv_at hl 0 rfl) ?_
  refine lv_i2l hx hb dX11_isFigure_1 rfl ?_
  refine lv_ldc2 (v := 48) hx hb S.2.2.2.1 (ht _ zw_472) dX11_isFigure_2 ?_
  refine lv_ldc2 (v := 57) hx hb S.2.2.2.1 (ht _ zw_482) dX11_isFigure_5 ?_
  obtain ⟨v1, hc2, hg⟩ := zbd hg
  refine zcallS (rest := []) S (c_X11_in l D cI cJ cZ cA ga x0.toInt64 (48 : Int64) (57 : Int64) v1 hc2) (zgS zw_220 zw_221 zw_5 zw_222) rfl hd_X11_in ⟨rfl, rfl⟩ ⟨Nat.le_of_ble_eq_true rfl, Nat.le_of_ble_eq_true rfl⟩ rfl hl.1 rfl (Nat.le_of_ble_eq_true rfl) dX11_isFigure_8 hP hD hS hA hK hG (isC := []) rfl (by decide +kernel) rfl ⟨Nat.zero_le _, Nat.zero_le _⟩ (pl := []) (nw := 0) rfl (by decide +kernel) (w2 := (ws_X11_isFigure cI cJ cZ cA)) rfl (st1 := [.int v1]) rfl (fun H locs hP hD hS => ?_)
  obtain ⟨hz01, hg⟩ := zck2 hg
  exact hret v1 hg (zb01 hz01) _ _ _ _ hP hS dX11_isFigure_11

/-! SpokenClockModel.next()V -/
abbrev ws_X11_next (cI cJ cZ cA : ClassId) (q_M q_M_text : Nat) (u_M_now : Value) (u_M_images : Value) (u_M_kept : Value) (u_M_sign : Value) (u_M_manyAbove : Value) (u_M_manyBelow : Value) (u_M_above : Value) (u_M_below : Value) (u_M_refused : Value) (u_M_read : Value) (u_M_acts : Value) (u_M_act : Value) (u_M_waits : Value) (u_M_wait : Value) (u_M_held : Value) (u_M_place : Value) (u_M_heap : Value) (u_M_clocks : Value) (u_M_counts : Value) (u_M_talking : Value) (u_M_most : Value) (u_M_hasA : Value) (u_M_hasB : Value) (u_M_talks : Value) (u_M_big : Value) (v_M_size : Int32) (v_M_at : Int32) (v_M_begin : Int32) (v_M_kind : Int32) (v_M_value : Int64) (a_M_text : Nat → Int32) : va_W := [(q_M, .inr (11, [u_M_now, u_M_images, u_M_kept, .ref q_M_text, .int v_M_size, u_M_sign, u_M_manyAbove, u_M_manyBelow, u_M_above, u_M_below, u_M_refused, .int v_M_at, .int v_M_begin, .int v_M_kind, .long v_M_value, u_M_read, u_M_acts, u_M_act, u_M_waits, u_M_wait, u_M_held, u_M_place, u_M_heap, u_M_clocks, u_M_counts, u_M_talking, u_M_most, u_M_hasA, u_M_hasB, u_M_talks, u_M_big])), (q_M_text, .inl (cI, 250, .inl a_M_text))]
abbrev rm_X11_next : Room := { frames := 2, cells := 0, slots := 0, locals := 45 }
def g_X11_next_332 (v_M_size : Int32) (a_M_text : Nat → Int32) (k255 : Int32 → Int32 → Int32 → Int64 → Option (Int32 × Int32 × Int32 × Int64)) (t1 : Int64) (v_M_at : Int32) (v_M_begin : Int32) (v_M_kind : Int32) (v_M_value : Int64) : Option (Int32 × Int32 × Int32 × Int64) :=
  k255 (v_M_at + 1) v_M_begin v_M_kind t1
def g_X11_next_255b (v_M_size : Int32) (a_M_text : Nat → Int32) (k255 : Int32 → Int32 → Int32 → Int64 → Option (Int32 × Int32 × Int32 × Int64)) (v_M_at : Int32) (v_M_begin : Int32) (v_M_kind : Int32) (v_M_value : Int64) : Option (Int32 × Int32 × Int32 × Int64) :=
  if v_M_kind = 2 then (
    if v_M_size ≤ v_M_at then (
      some (v_M_at, v_M_begin, v_M_kind, v_M_value)
    ) else (
      if v_M_at < 0 ∨ 250 ≤ v_M_at.toNatClampNeg then none else
      (g_X11_isFigure (a_M_text (v_M_at.toNatClampNeg))).bind fun v6 =>
      if v6 = 0 then (
        some (v_M_at, v_M_begin, v_M_kind, v_M_value)
      ) else (
        if 3 ≤ (v_M_at - v_M_begin) then (
          g_X11_next_332 v_M_size a_M_text k255 (100000 : Int64) v_M_at v_M_begin v_M_kind v_M_value
        ) else (
          if v_M_at < 0 ∨ 250 ≤ v_M_at.toNatClampNeg then none else
          g_X11_next_332 v_M_size a_M_text k255 ((((10 : Int64) * v_M_value) + ((a_M_text (v_M_at.toNatClampNeg)).toInt64)) - (48 : Int64)) v_M_at v_M_begin v_M_kind v_M_value
        )
      )
    )
  ) else (
    some (v_M_at, v_M_begin, v_M_kind, v_M_value)
  )
def g_X11_next_255 (v_M_size : Int32) (a_M_text : Nat → Int32) : Nat → Int32 → Int32 → Int32 → Int64 → Option (Int32 × Int32 × Int32 × Int64)
  | 0, _, _, _, _ => none
  | n + 1, v_M_at, v_M_begin, v_M_kind, v_M_value => g_X11_next_255b v_M_size a_M_text (g_X11_next_255 v_M_size a_M_text n) v_M_at v_M_begin v_M_kind v_M_value
def g_X11_next_239 (v_M_size : Int32) (a_M_text : Nat → Int32) (k161 : Int32 → Int32 → Int32 → Int64 → Option (Int32 × Int32 × Int32 × Int64)) (t1 : Int64) (v_M_at : Int32) (v_M_begin : Int32) (v_M_kind : Int32) (v_M_value : Int64) : Option (Int32 × Int32 × Int32 × Int64) :=
  k161 (v_M_at + 1) v_M_begin v_M_kind t1
def g_X11_next_161b (v_M_size : Int32) (a_M_text : Nat → Int32) (k161 : Int32 → Int32 → Int32 → Int64 → Option (Int32 × Int32 × Int32 × Int64)) (v_M_at : Int32) (v_M_begin : Int32) (v_M_kind : Int32) (v_M_value : Int64) : Option (Int32 × Int32 × Int32 × Int64) :=
  if v_M_kind = 1 then (
    if v_M_size ≤ v_M_at then (
      g_X11_next_255 v_M_size a_M_text zF v_M_at v_M_begin v_M_kind v_M_value
    ) else (
      if v_M_at < 0 ∨ 250 ≤ v_M_at.toNatClampNeg then none else
      (g_X11_isLetter (a_M_text (v_M_at.toNatClampNeg))).bind fun v10 =>
      if v10 = 0 then (
        g_X11_next_255 v_M_size a_M_text zF v_M_at v_M_begin v_M_kind v_M_value
      ) else (
        if 7 ≤ (v_M_at - v_M_begin) then (
          g_X11_next_239 v_M_size a_M_text k161 (-1 : Int64) v_M_at v_M_begin v_M_kind v_M_value
        ) else (
          if v_M_at < 0 ∨ 250 ≤ v_M_at.toNatClampNeg then none else
          g_X11_next_239 v_M_size a_M_text k161 ((((32 : Int64) * v_M_value) + ((a_M_text (v_M_at.toNatClampNeg)).toInt64)) - (96 : Int64)) v_M_at v_M_begin v_M_kind v_M_value
        )
      )
    )
  ) else (
    g_X11_next_255 v_M_size a_M_text zF v_M_at v_M_begin v_M_kind v_M_value
  )
def g_X11_next_161 (v_M_size : Int32) (a_M_text : Nat → Int32) : Nat → Int32 → Int32 → Int32 → Int64 → Option (Int32 × Int32 × Int32 × Int64)
  | 0, _, _, _, _ => none
  | n + 1, v_M_at, v_M_begin, v_M_kind, v_M_value => g_X11_next_161b v_M_size a_M_text (g_X11_next_161 v_M_size a_M_text n) v_M_at v_M_begin v_M_kind v_M_value
def g_X11_next_157 (v_M_size : Int32) (a_M_text : Nat → Int32) (t1 : Int32) (t2 : Int32) (v_M_at : Int32) (v_M_begin : Int32) (v_M_kind : Int32) (v_M_value : Int64) : Option (Int32 × Int32 × Int32 × Int64) :=
  g_X11_next_161 v_M_size a_M_text zF (t1 + t2) v_M_begin v_M_kind v_M_value
def g_X11_next_152 (v_M_size : Int32) (a_M_text : Nat → Int32) (t1 : Int32) (v_M_at : Int32) (v_M_begin : Int32) (v_M_kind : Int32) (v_M_value : Int64) : Option (Int32 × Int32 × Int32 × Int64) :=
  g_X11_next_157 v_M_size a_M_text t1 1 v_M_at v_M_begin v_M_kind v_M_value
def g_X11_next_128 (v_M_size : Int32) (a_M_text : Nat → Int32) (t1 : Int32) (v_M_at : Int32) (v_M_begin : Int32) (v_M_kind : Int32) (v_M_value : Int64) : Option (Int32 × Int32 × Int32 × Int64) :=
  if t1 = 3 then (
    g_X11_next_152 v_M_size a_M_text v_M_at v_M_at v_M_begin t1 v_M_value
  ) else (
    if t1 = 4 then (
      g_X11_next_152 v_M_size a_M_text v_M_at v_M_at v_M_begin t1 v_M_value
    ) else (
      g_X11_next_157 v_M_size a_M_text v_M_at 0 v_M_at v_M_begin t1 v_M_value
    )
  )
def g_X11_next_75 (v_M_size : Int32) (a_M_text : Nat → Int32) (t0 : Int32) (v_M_at : Int32) (v_M_begin : Int32) (v_M_kind : Int32) (v_M_value : Int64) : Option (Int32 × Int32 × Int32 × Int64) :=
  if 0 ≤ t0 then (
    (g_X11_isLetter t0).bind fun v1 =>
    if v1 = 0 then (
      (g_X11_isFigure t0).bind fun v3 =>
      if v3 = 0 then (
        if t0 = 45 then (
          g_X11_next_128 v_M_size a_M_text 3 v_M_at v_M_begin v_M_kind v_M_value
        ) else (
          if t0 = 59 then (
            g_X11_next_128 v_M_size a_M_text 4 v_M_at v_M_begin v_M_kind v_M_value
          ) else (
            g_X11_next_128 v_M_size a_M_text 5 v_M_at v_M_begin v_M_kind v_M_value
          )
        )
      ) else (
        g_X11_next_128 v_M_size a_M_text 2 v_M_at v_M_begin v_M_kind v_M_value
      )
    ) else (
      g_X11_next_128 v_M_size a_M_text 1 v_M_at v_M_begin v_M_kind v_M_value
    )
  ) else (
    g_X11_next_128 v_M_size a_M_text 0 v_M_at v_M_begin v_M_kind v_M_value
  )
def g_X11_next_38 (v_M_size : Int32) (a_M_text : Nat → Int32) (v_M_at : Int32) (v_M_begin : Int32) (v_M_kind : Int32) (v_M_value : Int64) : Option (Int32 × Int32 × Int32 × Int64) :=
  if v_M_size ≤ v_M_at then (
    g_X11_next_75 v_M_size a_M_text (-1) v_M_at v_M_at v_M_kind (0 : Int64)
  ) else (
    if v_M_at < 0 ∨ 250 ≤ v_M_at.toNatClampNeg then none else
    g_X11_next_75 v_M_size a_M_text (a_M_text (v_M_at.toNatClampNeg)) v_M_at v_M_at v_M_kind (0 : Int64)
  )
def g_X11_next_0b (v_M_size : Int32) (a_M_text : Nat → Int32) (k0 : Int32 → Int32 → Int32 → Int64 → Option (Int32 × Int32 × Int32 × Int64)) (v_M_at : Int32) (v_M_begin : Int32) (v_M_kind : Int32) (v_M_value : Int64) : Option (Int32 × Int32 × Int32 × Int64) :=
  if v_M_size ≤ v_M_at then (
    g_X11_next_38 v_M_size a_M_text v_M_at v_M_begin v_M_kind v_M_value
  ) else (
    if v_M_at < 0 ∨ 250 ≤ v_M_at.toNatClampNeg then none else
    if (a_M_text (v_M_at.toNatClampNeg)) = 32 then (
      k0 (v_M_at + 1) v_M_begin v_M_kind v_M_value
    ) else (
      g_X11_next_38 v_M_size a_M_text v_M_at v_M_begin v_M_kind v_M_value
    )
  )
def g_X11_next_0 (v_M_size : Int32) (a_M_text : Nat → Int32) : Nat → Int32 → Int32 → Int32 → Int64 → Option (Int32 × Int32 × Int32 × Int64)
  | 0, _, _, _, _ => none
  | n + 1, v_M_at, v_M_begin, v_M_kind, v_M_value => g_X11_next_0b v_M_size a_M_text (g_X11_next_0 v_M_size a_M_text n) v_M_at v_M_begin v_M_kind v_M_value
def g_X11_next (v_M_size : Int32) (a_M_text : Nat → Int32) (v_M_at : Int32) (v_M_begin : Int32) (v_M_kind : Int32) (v_M_value : Int64) : Option (Int32 × Int32 × Int32 × Int64) :=
  g_X11_next_0 v_M_size a_M_text zF v_M_at v_M_begin v_M_kind v_M_value
theorem hd_X11_next : yX11_next.cls = RX11 ∧ yX11_next.cls ≠ "java/lang/invoke/MethodHandle" ∧ yX11_next.cls ≠ "java/lang/invoke/VarHandle" ∧ (parseMethodDescriptor yX11_next.desc).map (fun d => d.parameters.length) = some 0 := by decide +kernel
set_option maxHeartbeats 4000000 in
set_option maxRecDepth 100000 in
theorem c_X11_next (l : Launch) (D : va_G) (cI cJ cZ cA : ClassId) (ga : Nat → Nat) (q_M q_M_text : Nat) (u_M_now : Value) (u_M_images : Value) (u_M_kept : Value) (u_M_sign : Value) (u_M_manyAbove : Value) (u_M_manyBelow : Value) (u_M_above : Value) (u_M_below : Value) (u_M_refused : Value) (u_M_read : Value) (u_M_acts : Value) (u_M_act : Value) (u_M_waits : Value) (u_M_wait : Value) (u_M_held : Value) (u_M_place : Value) (u_M_heap : Value) (u_M_clocks : Value) (u_M_counts : Value) (u_M_talking : Value) (u_M_most : Value) (u_M_hasA : Value) (u_M_hasB : Value) (u_M_talks : Value) (u_M_big : Value) (v_M_size : Int32) (v_M_at : Int32) (v_M_begin : Int32) (v_M_kind : Int32) (v_M_value : Int64) (a_M_text : Nat → Int32) (o : Int32 × Int32 × Int32 × Int64) (hg : g_X11_next v_M_size a_M_text v_M_at v_M_begin v_M_kind v_M_value = some o) : zM l yX11_next (Cond.code yX11_next cX11_next 2 none :: wsL_law) rm_X11_next D (zTy cI cJ cZ cA) ga [.ref q_M] (ws_X11_next cI cJ cZ cA q_M q_M_text u_M_now u_M_images u_M_kept u_M_sign u_M_manyAbove u_M_manyBelow u_M_above u_M_below u_M_refused u_M_read u_M_acts u_M_act u_M_waits u_M_wait u_M_held u_M_place u_M_heap u_M_clocks u_M_counts u_M_talking u_M_most u_M_hasA u_M_hasB u_M_talks u_M_big v_M_size v_M_at v_M_begin v_M_kind v_M_value a_M_text) (ws_X11_next cI cJ cZ cA q_M q_M_text u_M_now u_M_images u_M_kept u_M_sign u_M_manyAbove u_M_manyBelow u_M_above u_M_below u_M_refused u_M_read u_M_acts u_M_act u_M_waits u_M_wait u_M_held u_M_place u_M_heap u_M_clocks u_M_counts u_M_talking u_M_most u_M_hasA u_M_hasB u_M_talks u_M_big v_M_size o.1 o.2.1 o.2.2.1 o.2.2.2 a_M_text) none := by
  refine zenterV (own := RX11) (by decide) rfl rfl (Nat.le_of_ble_eq_true rfl) ?_
  intro p e s m args below meth c A ls Q S hA hK hG hl hP hD hS hret0
  have hx := S.1
  have hb := S.2.1
  have ht : ∀ w, w ∈ wsL_law → w.before args s = true := fun w h => S.2.2.2.2 w (List.mem_cons_of_mem _ h)
  have hret : ∀ (v_M_at : Int32) (v_M_begin : Int32) (v_M_kind : Int32) (v_M_value : Int64), (some (v_M_at, v_M_begin, v_M_kind, v_M_value) : Option (Int32 × Int32 × Int32 × Int64)) = some o → ∀ (H : Heap) (locs : List Loc) (pc : Nat) (ls : Array Slot), va_P D vwCl (ws_X11_next cI cJ cZ cA q_M q_M_text u_M_now u_M_images u_M_kept u_M_sign u_M_manyAbove u_M_manyBelow u_M_above u_M_below u_M_refused u_M_read u_M_acts u_M_act u_M_waits u_M_wait u_M_held u_M_place u_M_heap u_M_clocks u_M_counts u_M_talking u_M_most u_M_hasA u_M_hasB u_M_talks u_M_big v_M_size v_M_at v_M_begin v_M_kind v_M_value a_M_text) H → va_S A s.heap H locs → decode cX11_next pc = .ok (.return_, 1) → W p l e rm_X11_next s m args below meth c H locs 0 0 Q (F0 m pc ls []) := by
    intro v_M_at v_M_begin v_M_kind v_M_value he; cases he; exact hret0
  have hl : lv_has ls 2 [(0, .ref q_M)] := hl
  have B332 : ∀ (k255 : Int32 → Int32 → Int32 → Int64 → Option (Int32 × Int32 × Int32 × Int64)) (hk255 : ∀ (v_M_at : Int32) (v_M_begin : Int32) (v_M_kind : Int32) (v_M_value : Int64) (H : Heap) (locs : List Loc) (ls : Array Slot) (hl : lv_has ls 2 [(0, .ref q_M)]) (hP : va_P D vwCl (ws_X11_next cI cJ cZ cA q_M q_M_text u_M_now u_M_images u_M_kept u_M_sign u_M_manyAbove u_M_manyBelow u_M_above u_M_below u_M_refused u_M_read u_M_acts u_M_act u_M_waits u_M_wait u_M_held u_M_place u_M_heap u_M_clocks u_M_counts u_M_talking u_M_most u_M_hasA u_M_hasB u_M_talks u_M_big v_M_size v_M_at v_M_begin v_M_kind v_M_value a_M_text) H) (hD : va_D A (ws_X11_next cI cJ cZ cA q_M q_M_text u_M_now u_M_images u_M_kept u_M_sign u_M_manyAbove u_M_manyBelow u_M_above u_M_below u_M_refused u_M_read u_M_acts u_M_act u_M_waits u_M_wait u_M_held u_M_place u_M_heap u_M_clocks u_M_counts u_M_talking u_M_most u_M_hasA u_M_hasB u_M_talks u_M_big v_M_size v_M_at v_M_begin v_M_kind v_M_value a_M_text)) (hS : va_S A s.heap H locs), k255 v_M_at v_M_begin v_M_kind v_M_value = some o → W p l e rm_X11_next s m args below meth c H locs 0 0 Q (F0 m 255 ls [])) (t1 : Int64) (v_M_at : Int32) (v_M_begin : Int32) (v_M_kind : Int32) (v_M_value : Int64) (H : Heap) (locs : List Loc) (ls : Array Slot) (hl : lv_has ls 2 [(0, .ref q_M)]) (hP : va_P D vwCl (ws_X11_next cI cJ cZ cA q_M q_M_text u_M_now u_M_images u_M_kept u_M_sign u_M_manyAbove u_M_manyBelow u_M_above u_M_below u_M_refused u_M_read u_M_acts u_M_act u_M_waits u_M_wait u_M_held u_M_place u_M_heap u_M_clocks u_M_counts u_M_talking u_M_most u_M_hasA u_M_hasB u_M_talks u_M_big v_M_size v_M_at v_M_begin v_M_kind v_M_value a_M_text) H) (hD : va_D A (ws_X11_next cI cJ cZ cA q_M q_M_text u_M_now u_M_images u_M_kept u_M_sign u_M_manyAbove u_M_manyBelow u_M_above u_M_below u_M_refused u_M_read u_M_acts u_M_act u_M_waits u_M_wait u_M_held u_M_place u_M_heap u_M_clocks u_M_counts u_M_talking u_M_most u_M_hasA u_M_hasB u_M_talks u_M_big v_M_size v_M_at v_M_begin v_M_kind v_M_value a_M_text)) (hS : va_S A s.heap H locs), g_X11_next_332 v_M_size a_M_text k255 t1 v_M_at v_M_begin v_M_kind v_M_value = some o → W p l e rm_X11_next s m args below meth c H locs 0 0 Q (F0 m 332 ls [.long t1, .ref q_M]) := by
    intro k255 hk255 t1 v_M_at v_M_begin v_M_kind v_M_value H locs ls hl hP hD hS hg
    refine zputf (C := RX11) (T := TX11) (N := 31) (ty := .long) S hK hP hD hS 0 rfl rfl 14 (Nat.le_of_ble_eq_true rfl) zf_11 tyX11 tyX11_ok nmX11 zw_456 rfl (by decide +kernel) rfl rfl (Nat.le_of_ble_eq_true rfl) dX11_next_332 (w2 := (ws_X11_next cI cJ cZ cA q_M q_M_text u_M_now u_M_images u_M_kept u_M_sign u_M_manyAbove u_M_manyBelow u_M_above u_M_below u_M_refused u_M_read u_M_acts u_M_act u_M_waits u_M_wait u_M_held u_M_place u_M_heap u_M_clocks u_M_counts u_M_talking u_M_most u_M_hasA u_M_hasB u_M_talks u_M_big v_M_size v_M_at v_M_begin v_M_kind t1 a_M_text)) rfl (fun H locs hP hD hS => ?_)
    refine lv_aload_n hx hb dX11_next_335 rfl (lv_at hl 0 rfl) ?_
    refine lv_dup hx hb dX11_next_336 rfl ?_
    refine zget (C := RX11) (T := TX11) (N := 31) S hK hP 0 rfl rfl 11 (Nat.le_of_ble_eq_true rfl) zf_11 zw_454 rfl dX11_next_337 ?_
    refine lv_iconst (v := 1) hx hb dX11_next_340 (by decide) ?_
    refine lv_iadd hx hb dX11_next_341 ?_
    refine zputf (C := RX11) (T := TX11) (N := 31) (ty := .int) S hK hP hD hS 0 rfl rfl 11 (Nat.le_of_ble_eq_true rfl) zf_11 tyX11 tyX11_ok nmX11 zw_454 rfl (by decide +kernel) rfl rfl (Nat.le_of_ble_eq_true rfl) dX11_next_342 (w2 := (ws_X11_next cI cJ cZ cA q_M q_M_text u_M_now u_M_images u_M_kept u_M_sign u_M_manyAbove u_M_manyBelow u_M_above u_M_below u_M_refused u_M_read u_M_acts u_M_act u_M_waits u_M_wait u_M_held u_M_place u_M_heap u_M_clocks u_M_counts u_M_talking u_M_most u_M_hasA u_M_hasB u_M_talks u_M_big v_M_size (v_M_at + 1) v_M_begin v_M_kind t1 a_M_text)) rfl (fun H locs hP hD hS => ?_)
    refine lv_goto (tgt := 255) hx hb dX11_next_345 (by decide) ?_
    exact hk255 (v_M_at + 1) v_M_begin v_M_kind t1 _ _ _ hl hP hD hS hg
  have B255 : ∀  (n : Nat) (v_M_at : Int32) (v_M_begin : Int32) (v_M_kind : Int32) (v_M_value : Int64) (H : Heap) (locs : List Loc) (ls : Array Slot) (hl : lv_has ls 2 [(0, .ref q_M)]) (hP : va_P D vwCl (ws_X11_next cI cJ cZ cA q_M q_M_text u_M_now u_M_images u_M_kept u_M_sign u_M_manyAbove u_M_manyBelow u_M_above u_M_below u_M_refused u_M_read u_M_acts u_M_act u_M_waits u_M_wait u_M_held u_M_place u_M_heap u_M_clocks u_M_counts u_M_talking u_M_most u_M_hasA u_M_hasB u_M_talks u_M_big v_M_size v_M_at v_M_begin v_M_kind v_M_value a_M_text) H) (hD : va_D A (ws_X11_next cI cJ cZ cA q_M q_M_text u_M_now u_M_images u_M_kept u_M_sign u_M_manyAbove u_M_manyBelow u_M_above u_M_below u_M_refused u_M_read u_M_acts u_M_act u_M_waits u_M_wait u_M_held u_M_place u_M_heap u_M_clocks u_M_counts u_M_talking u_M_most u_M_hasA u_M_hasB u_M_talks u_M_big v_M_size v_M_at v_M_begin v_M_kind v_M_value a_M_text)) (hS : va_S A s.heap H locs), g_X11_next_255 v_M_size a_M_text n v_M_at v_M_begin v_M_kind v_M_value = some o → W p l e rm_X11_next s m args below meth c H locs 0 0 Q (F0 m 255 ls []) := by
    intro  n
    induction n with
    | zero => intro v_M_at v_M_begin v_M_kind v_M_value H locs ls hl hP hD hS hg; exact nomatch (show (none : Option (Int32 × Int32 × Int32 × Int64)) = some o from hg)
    | succ n ih =>
      intro v_M_at v_M_begin v_M_kind v_M_value H locs ls hl hP hD hS hg
      have hg : g_X11_next_255b v_M_size a_M_text (g_X11_next_255 v_M_size a_M_text n) v_M_at v_M_begin v_M_kind v_M_value = some o := hg
      refine lv_aload_n hx hb dX11_next_255 rfl (lv_at hl 0 rfl) ?_
      refine zget (C := RX11) (T := TX11) (N := 31) S hK hP 0 rfl rfl 13 (Nat.le_of_ble_eq_true rfl) zf_11 zw_455 rfl dX11_next_256 ?_
      refine lv_iconst (v := 2) hx hb dX11_next_259 (by decide) ?_
      refine lv_icmp_ne (tgt := 348) hx hb dX11_next_260 (by decide) (fun h260 => ?_) (fun h260 => ?_)
      · have hg := zn hg h260
        exact hret v_M_at v_M_begin v_M_kind v_M_value hg _ _ _ _ hP hS dX11_next_348
      · have hg := zp hg h260
        refine lv_aload_n hx hb dX11_next_263 rfl (lv_at hl 0 rfl) ?_
        refine zget (C := RX11) (T := TX11) (N := 31) S hK hP 0 rfl rfl 11 (Nat.le_of_ble_eq_true rfl) zf_11 zw_454 rfl dX11_next_264 ?_
        refine lv_aload_n hx hb dX11_next_267 rfl (lv_at hl 0 rfl) ?_
        refine zget (C := RX11) (T := TX11) (N := 31) S hK hP 0 rfl rfl 4 (Nat.le_of_ble_eq_true rfl) zf_11 zw_308 rfl dX11_next_268 ?_
        refine lv_icmp_ge (tgt := 348) hx hb dX11_next_271 (by decide) (fun h271 => ?_) (fun h271 => ?_)
        · have hg := zp hg h271
          exact hret v_M_at v_M_begin v_M_kind v_M_value hg _ _ _ _ hP hS dX11_next_348
        · have hg := zn hg h271
          refine lv_aload_n hx hb dX11_next_274 rfl (lv_at hl 0 rfl) ?_
          refine zget (C := RX11) (T := TX11) (N := 31) S hK hP 0 rfl rfl 3 (Nat.le_of_ble_eq_true rfl) zf_11 zw_152 rfl dX11_next_275 ?_
          refine lv_aload_n hx hb dX11_next_278 rfl (lv_at hl 0 rfl) ?_
          refine zget (C := RX11) (T := TX11) (N := 31) S hK hP 0 rfl rfl 11 (Nat.le_of_ble_eq_true rfl) zf_11 zw_454 rfl dX11_next_279 ?_
          obtain ⟨h5, hg⟩ := zck hg
          refine ziald hx hb hK hP 1 0 rfl rfl (j := (v_M_at.toNatClampNeg)) h5 rfl dX11_next_282 ?_
          obtain ⟨v6, hc7, hg⟩ := zbd hg
          refine zcallS (rest := []) S (c_X11_isFigure l D cI cJ cZ cA ga (a_M_text (v_M_at.toNatClampNeg)) v6 hc7) (zgS zw_479 zw_480 zw_5 zw_481) rfl hd_X11_isFigure ⟨rfl, rfl⟩ ⟨Nat.le_of_ble_eq_true rfl, Nat.le_of_ble_eq_true rfl⟩ rfl hl.1 rfl (Nat.le_of_ble_eq_true rfl) dX11_next_283 hP hD hS hA hK hG (isC := []) rfl (by decide +kernel) rfl ⟨Nat.zero_le _, Nat.zero_le _⟩ (pl := [none, none]) (nw := 2) rfl (by decide +kernel) (w2 := (ws_X11_next cI cJ cZ cA q_M q_M_text u_M_now u_M_images u_M_kept u_M_sign u_M_manyAbove u_M_manyBelow u_M_above u_M_below u_M_refused u_M_read u_M_acts u_M_act u_M_waits u_M_wait u_M_held u_M_place u_M_heap u_M_clocks u_M_counts u_M_talking u_M_most u_M_hasA u_M_hasB u_M_talks u_M_big v_M_size v_M_at v_M_begin v_M_kind v_M_value a_M_text)) rfl (st1 := [.int v6]) rfl (fun H locs hP hD hS => ?_)
          refine lv_if_eq (tgt := 348) hx hb dX11_next_286 (by decide) (fun h286 => ?_) (fun h286 => ?_)
          · have hg := zp hg h286
            exact hret v_M_at v_M_begin v_M_kind v_M_value hg _ _ _ _ hP hS dX11_next_348
          · have hg := zn hg h286
            refine lv_aload_n hx hb dX11_next_289 rfl (lv_at hl 0 rfl) ?_
            refine lv_aload_n hx hb dX11_next_290 rfl (lv_at hl 0 rfl) ?_
            refine zget (C := RX11) (T := TX11) (N := 31) S hK hP 0 rfl rfl 11 (Nat.le_of_ble_eq_true rfl) zf_11 zw_454 rfl dX11_next_291 ?_
            refine lv_aload_n hx hb dX11_next_294 rfl (lv_at hl 0 rfl) ?_
            refine zget (C := RX11) (T := TX11) (N := 31) S hK hP 0 rfl rfl 12 (Nat.le_of_ble_eq_true rfl) zf_11 zw_449 rfl dX11_next_295 ?_
            refine lv_isub hx hb dX11_next_298 ?_
            refine lv_iconst (v := 3) hx hb dX11_next_299 (by decide) ?_
            refine lv_icmp_ge (tgt := 329) hx hb dX11_next_300 (by decide) (fun h300 => ?_) (fun h300 => ?_)
            · have hg := zp hg h300
              refine lv_ldc2 (v := 100000) hx hb S.2.2.2.1 (ht _ zw_473) dX11_next_329 ?_
              exact B332 (g_X11_next_255 v_M_size a_M_text n) ih (100000 : Int64) v_M_at v_M_begin v_M_kind v_M_value _ _ _ hl hP hD hS hg
            · have hg := zn hg h300
              refine lv_ldc2 (v := 10) hx hb S.2.2.2.1 (ht _ zw_471) dX11_next_303 ?_
              refine lv_aload_n hx hb dX11_next_306 rfl (lv_at hl 0 rfl) ?_
              refine zget (C := RX11) (T := TX11) (N := 31) S hK hP 0 rfl rfl 14 (Nat.le_of_ble_eq_true rfl) zf_11 zw_456 rfl dX11_next_307 ?_
              refine lv_lmul hx hb dX11_next_310 ?_
              refine lv_aload_n hx hb dX11_next_311 rfl (lv_at hl 0 rfl) ?_
              refine zget (C := RX11) (T := TX11) (N := 31) S hK hP 0 rfl rfl 3 (Nat.le_of_ble_eq_true rfl) zf_11 zw_152 rfl dX11_next_312 ?_
              refine lv_aload_n hx hb dX11_next_315 rfl (lv_at hl 0 rfl) ?_
              refine zget (C := RX11) (T := TX11) (N := 31) S hK hP 0 rfl rfl 11 (Nat.le_of_ble_eq_true rfl) zf_11 zw_454 rfl dX11_next_316 ?_
              obtain ⟨h8, hg⟩ := zck hg
              refine ziald hx hb hK hP 1 0 rfl rfl (j := (v_M_at.toNatClampNeg)) h8 rfl dX11_next_319 ?_
              refine lv_i2l hx hb dX11_next_320 rfl ?_
              refine lv_ladd hx hb dX11_next_321 ?_
              refine lv_ldc2 (v := 48) hx hb S.2.2.2.1 (ht _ zw_472) dX11_next_322 ?_
              refine lv_lsub hx hb dX11_next_325 ?_
              refine lv_goto (tgt := 332) hx hb dX11_next_326 (by decide) ?_
              exact B332 (g_X11_next_255 v_M_size a_M_text n) ih ((((10 : Int64) * v_M_value) + ((a_M_text (v_M_at.toNatClampNeg)).toInt64)) - (48 : Int64)) v_M_at v_M_begin v_M_kind v_M_value _ _ _ hl hP hD hS hg
  have B239 : ∀ (k161 : Int32 → Int32 → Int32 → Int64 → Option (Int32 × Int32 × Int32 × Int64)) (hk161 : ∀ (v_M_at : Int32) (v_M_begin : Int32) (v_M_kind : Int32) (v_M_value : Int64) (H : Heap) (locs : List Loc) (ls : Array Slot) (hl : lv_has ls 2 [(0, .ref q_M)]) (hP : va_P D vwCl (ws_X11_next cI cJ cZ cA q_M q_M_text u_M_now u_M_images u_M_kept u_M_sign u_M_manyAbove u_M_manyBelow u_M_above u_M_below u_M_refused u_M_read u_M_acts u_M_act u_M_waits u_M_wait u_M_held u_M_place u_M_heap u_M_clocks u_M_counts u_M_talking u_M_most u_M_hasA u_M_hasB u_M_talks u_M_big v_M_size v_M_at v_M_begin v_M_kind v_M_value a_M_text) H) (hD : va_D A (ws_X11_next cI cJ cZ cA q_M q_M_text u_M_now u_M_images u_M_kept u_M_sign u_M_manyAbove u_M_manyBelow u_M_above u_M_below u_M_refused u_M_read u_M_acts u_M_act u_M_waits u_M_wait u_M_held u_M_place u_M_heap u_M_clocks u_M_counts u_M_talking u_M_most u_M_hasA u_M_hasB u_M_talks u_M_big v_M_size v_M_at v_M_begin v_M_kind v_M_value a_M_text)) (hS : va_S A s.heap H locs), k161 v_M_at v_M_begin v_M_kind v_M_value = some o → W p l e rm_X11_next s m args below meth c H locs 0 0 Q (F0 m 161 ls [])) (t1 : Int64) (v_M_at : Int32) (v_M_begin : Int32) (v_M_kind : Int32) (v_M_value : Int64) (H : Heap) (locs : List Loc) (ls : Array Slot) (hl : lv_has ls 2 [(0, .ref q_M)]) (hP : va_P D vwCl (ws_X11_next cI cJ cZ cA q_M q_M_text u_M_now u_M_images u_M_kept u_M_sign u_M_manyAbove u_M_manyBelow u_M_above u_M_below u_M_refused u_M_read u_M_acts u_M_act u_M_waits u_M_wait u_M_held u_M_place u_M_heap u_M_clocks u_M_counts u_M_talking u_M_most u_M_hasA u_M_hasB u_M_talks u_M_big v_M_size v_M_at v_M_begin v_M_kind v_M_value a_M_text) H) (hD : va_D A (ws_X11_next cI cJ cZ cA q_M q_M_text u_M_now u_M_images u_M_kept u_M_sign u_M_manyAbove u_M_manyBelow u_M_above u_M_below u_M_refused u_M_read u_M_acts u_M_act u_M_waits u_M_wait u_M_held u_M_place u_M_heap u_M_clocks u_M_counts u_M_talking u_M_most u_M_hasA u_M_hasB u_M_talks u_M_big v_M_size v_M_at v_M_begin v_M_kind v_M_value a_M_text)) (hS : va_S A s.heap H locs), g_X11_next_239 v_M_size a_M_text k161 t1 v_M_at v_M_begin v_M_kind v_M_value = some o → W p l e rm_X11_next s m args below meth c H locs 0 0 Q (F0 m 239 ls [.long t1, .ref q_M]) := by
    intro k161 hk161 t1 v_M_at v_M_begin v_M_kind v_M_value H locs ls hl hP hD hS hg
    refine zputf (C := RX11) (T := TX11) (N := 31) (ty := .long) S hK hP hD hS 0 rfl rfl 14 (Nat.le_of_ble_eq_true rfl) zf_11 tyX11 tyX11_ok nmX11 zw_456 rfl (by decide +kernel) rfl rfl (Nat.le_of_ble_eq_true rfl) dX11_next_239 (w2 := (ws_X11_next cI cJ cZ cA q_M q_M_text u_M_now u_M_images u_M_kept u_M_sign u_M_manyAbove u_M_manyBelow u_M_above u_M_below u_M_refused u_M_read u_M_acts u_M_act u_M_waits u_M_wait u_M_held u_M_place u_M_heap u_M_clocks u_M_counts u_M_talking u_M_most u_M_hasA u_M_hasB u_M_talks u_M_big v_M_size v_M_at v_M_begin v_M_kind t1 a_M_text)) rfl (fun H locs hP hD hS => ?_)
    refine lv_aload_n hx hb dX11_next_242 rfl (lv_at hl 0 rfl) ?_
    refine lv_dup hx hb dX11_next_243 rfl ?_
    refine zget (C := RX11) (T := TX11) (N := 31) S hK hP 0 rfl rfl 11 (Nat.le_of_ble_eq_true rfl) zf_11 zw_454 rfl dX11_next_244 ?_
    refine lv_iconst (v := 1) hx hb dX11_next_247 (by decide) ?_
    refine lv_iadd hx hb dX11_next_248 ?_
    refine zputf (C := RX11) (T := TX11) (N := 31) (ty := .int) S hK hP hD hS 0 rfl rfl 11 (Nat.le_of_ble_eq_true rfl) zf_11 tyX11 tyX11_ok nmX11 zw_454 rfl (by decide +kernel) rfl rfl (Nat.le_of_ble_eq_true rfl) dX11_next_249 (w2 := (ws_X11_next cI cJ cZ cA q_M q_M_text u_M_now u_M_images u_M_kept u_M_sign u_M_manyAbove u_M_manyBelow u_M_above u_M_below u_M_refused u_M_read u_M_acts u_M_act u_M_waits u_M_wait u_M_held u_M_place u_M_heap u_M_clocks u_M_counts u_M_talking u_M_most u_M_hasA u_M_hasB u_M_talks u_M_big v_M_size (v_M_at + 1) v_M_begin v_M_kind t1 a_M_text)) rfl (fun H locs hP hD hS => ?_)
    refine lv_goto (tgt := 161) hx hb dX11_next_252 (by decide) ?_
    exact hk161 (v_M_at + 1) v_M_begin v_M_kind t1 _ _ _ hl hP hD hS hg
  have B161 : ∀  (n : Nat) (v_M_at : Int32) (v_M_begin : Int32) (v_M_kind : Int32) (v_M_value : Int64) (H : Heap) (locs : List Loc) (ls : Array Slot) (hl : lv_has ls 2 [(0, .ref q_M)]) (hP : va_P D vwCl (ws_X11_next cI cJ cZ cA q_M q_M_text u_M_now u_M_images u_M_kept u_M_sign u_M_manyAbove u_M_manyBelow u_M_above u_M_below u_M_refused u_M_read u_M_acts u_M_act u_M_waits u_M_wait u_M_held u_M_place u_M_heap u_M_clocks u_M_counts u_M_talking u_M_most u_M_hasA u_M_hasB u_M_talks u_M_big v_M_size v_M_at v_M_begin v_M_kind v_M_value a_M_text) H) (hD : va_D A (ws_X11_next cI cJ cZ cA q_M q_M_text u_M_now u_M_images u_M_kept u_M_sign u_M_manyAbove u_M_manyBelow u_M_above u_M_below u_M_refused u_M_read u_M_acts u_M_act u_M_waits u_M_wait u_M_held u_M_place u_M_heap u_M_clocks u_M_counts u_M_talking u_M_most u_M_hasA u_M_hasB u_M_talks u_M_big v_M_size v_M_at v_M_begin v_M_kind v_M_value a_M_text)) (hS : va_S A s.heap H locs), g_X11_next_161 v_M_size a_M_text n v_M_at v_M_begin v_M_kind v_M_value = some o → W p l e rm_X11_next s m args below meth c H locs 0 0 Q (F0 m 161 ls []) := by
    intro  n
    induction n with
    | zero => intro v_M_at v_M_begin v_M_kind v_M_value H locs ls hl hP hD hS hg; exact nomatch (show (none : Option (Int32 × Int32 × Int32 × Int64)) = some o from hg)
    | succ n ih =>
      intro v_M_at v_M_begin v_M_kind v_M_value H locs ls hl hP hD hS hg
      have hg : g_X11_next_161b v_M_size a_M_text (g_X11_next_161 v_M_size a_M_text n) v_M_at v_M_begin v_M_kind v_M_value = some o := hg
      refine lv_aload_n hx hb dX11_next_161 rfl (lv_at hl 0 rfl) ?_
      refine zget (C := RX11) (T := TX11) (N := 31) S hK hP 0 rfl rfl 13 (Nat.le_of_ble_eq_true rfl) zf_11 zw_455 rfl dX11_next_162 ?_
      refine lv_iconst (v := 1) hx hb dX11_next_165 (by decide) ?_
      refine lv_icmp_ne (tgt := 255) hx hb dX11_next_166 (by decide) (fun h166 => ?_) (fun h166 => ?_)
      · have hg := zn hg h166
        exact B255 zF v_M_at v_M_begin v_M_kind v_M_value _ _ _ hl hP hD hS hg
      · have hg := zp hg h166
        refine lv_aload_n hx hb dX11_next_169 rfl (lv_at hl 0 rfl) ?_
        refine zget (C := RX11) (T := TX11) (N := 31) S hK hP 0 rfl rfl 11 (Nat.le_of_ble_eq_true rfl) zf_11 zw_454 rfl dX11_next_170 ?_
        refine lv_aload_n hx hb dX11_next_173 rfl (lv_at hl 0 rfl) ?_
        refine zget (C := RX11) (T := TX11) (N := 31) S hK hP 0 rfl rfl 4 (Nat.le_of_ble_eq_true rfl) zf_11 zw_308 rfl dX11_next_174 ?_
        refine lv_icmp_ge (tgt := 255) hx hb dX11_next_177 (by decide) (fun h177 => ?_) (fun h177 => ?_)
        · have hg := zp hg h177
          exact B255 zF v_M_at v_M_begin v_M_kind v_M_value _ _ _ hl hP hD hS hg
        · have hg := zn hg h177
          refine lv_aload_n hx hb dX11_next_180 rfl (lv_at hl 0 rfl) ?_
          refine zget (C := RX11) (T := TX11) (N := 31) S hK hP 0 rfl rfl 3 (Nat.le_of_ble_eq_true rfl) zf_11 zw_152 rfl dX11_next_181 ?_
          refine lv_aload_n hx hb dX11_next_184 rfl (lv_at hl 0 rfl) ?_
          refine zget (C := RX11) (T := TX11) (N := 31) S hK hP 0 rfl rfl 11 (Nat.le_of_ble_eq_true rfl) zf_11 zw_454 rfl dX11_next_185 ?_
          obtain ⟨h9, hg⟩ := zck hg
          refine ziald hx hb hK hP 1 0 rfl rfl (j := (v_M_at.toNatClampNeg)) h9 rfl dX11_next_188 ?_
          obtain ⟨v10, hc11, hg⟩ := zbd hg
          refine zcallS (rest := []) S (c_X11_isLetter l D cI cJ cZ cA ga (a_M_text (v_M_at.toNatClampNeg)) v10 hc11) (zgS zw_474 zw_475 zw_5 zw_476) rfl hd_X11_isLetter ⟨rfl, rfl⟩ ⟨Nat.le_of_ble_eq_true rfl, Nat.le_of_ble_eq_true rfl⟩ rfl hl.1 rfl (Nat.le_of_ble_eq_true rfl) dX11_next_189 hP hD hS hA hK hG (isC := []) rfl (by decide +kernel) rfl ⟨Nat.zero_le _, Nat.zero_le _⟩ (pl := [none, none]) (nw := 2) rfl (by decide +kernel) (w2 := (ws_X11_next cI cJ cZ cA q_M q_M_text u_M_now u_M_images u_M_kept u_M_sign u_M_manyAbove u_M_manyBelow u_M_above u_M_below u_M_refused u_M_read u_M_acts u_M_act u_M_waits u_M_wait u_M_held u_M_place u_M_heap u_M_clocks u_M_counts u_M_talking u_M_most u_M_hasA u_M_hasB u_M_talks u_M_big v_M_size v_M_at v_M_begin v_M_kind v_M_value a_M_text)) rfl (st1 := [.int v10]) rfl (fun H locs hP hD hS => ?_)
          refine lv_if_eq (tgt := 255) hx hb dX11_next_192 (by decide) (fun h192 => ?_) (fun h192 => ?_)
          · have hg := zp hg h192
            exact B255 zF v_M_at v_M_begin v_M_kind v_M_value _ _ _ hl hP hD hS hg
          · have hg := zn hg h192
            refine lv_aload_n hx hb dX11_next_195 rfl (lv_at hl 0 rfl) ?_
            refine lv_aload_n hx hb dX11_next_196 rfl (lv_at hl 0 rfl) ?_
            refine zget (C := RX11) (T := TX11) (N := 31) S hK hP 0 rfl rfl 11 (Nat.le_of_ble_eq_true rfl) zf_11 zw_454 rfl dX11_next_197 ?_
            refine lv_aload_n hx hb dX11_next_200 rfl (lv_at hl 0 rfl) ?_
            refine zget (C := RX11) (T := TX11) (N := 31) S hK hP 0 rfl rfl 12 (Nat.le_of_ble_eq_true rfl) zf_11 zw_449 rfl dX11_next_201 ?_
            refine lv_isub hx hb dX11_next_204 ?_
            refine lv_bipush (v := 7) hx hb dX11_next_205 (by decide) ?_
            refine lv_icmp_ge (tgt := 236) hx hb dX11_next_207 (by decide) (fun h207 => ?_) (fun h207 => ?_)
            · have hg := zp hg h207
              refine lv_ldc2 (v := (-1)) hx hb S.2.2.2.1 (ht _ zw_470) dX11_next_236 ?_
              exact B239 (g_X11_next_161 v_M_size a_M_text n) ih (-1 : Int64) v_M_at v_M_begin v_M_kind v_M_value _ _ _ hl hP hD hS hg
            · have hg := zn hg h207
              refine lv_ldc2 (v := 32) hx hb S.2.2.2.1 (ht _ zw_468) dX11_next_210 ?_
              refine lv_aload_n hx hb dX11_next_213 rfl (lv_at hl 0 rfl) ?_
              refine zget (C := RX11) (T := TX11) (N := 31) S hK hP 0 rfl rfl 14 (Nat.le_of_ble_eq_true rfl) zf_11 zw_456 rfl dX11_next_214 ?_
              refine lv_lmul hx hb dX11_next_217 ?_
              refine lv_aload_n hx hb dX11_next_218 rfl (lv_at hl 0 rfl) ?_
              refine zget (C := RX11) (T := TX11) (N := 31) S hK hP 0 rfl rfl 3 (Nat.le_of_ble_eq_true rfl) zf_11 zw_152 rfl dX11_next_219 ?_
              refine lv_aload_n hx hb dX11_next_222 rfl (lv_at hl 0 rfl) ?_
              refine zget (C := RX11) (T := TX11) (N := 31) S hK hP 0 rfl rfl 11 (Nat.le_of_ble_eq_true rfl) zf_11 zw_454 rfl dX11_next_223 ?_
              obtain ⟨h12, hg⟩ := zck hg
              refine ziald hx hb hK hP 1 0 rfl rfl (j := (v_M_at.toNatClampNeg)) h12 rfl dX11_next_226 ?_
              refine lv_i2l hx hb dX11_next_227 rfl ?_
              refine lv_ladd hx hb dX11_next_228 ?_
              refine lv_ldc2 (v := 96) hx hb S.2.2.2.1 (ht _ zw_469) dX11_next_229 ?_
              refine lv_lsub hx hb dX11_next_232 ?_
              refine lv_goto (tgt := 239) hx hb dX11_next_233 (by decide) ?_
              exact B239 (g_X11_next_161 v_M_size a_M_text n) ih ((((32 : Int64) * v_M_value) + ((a_M_text (v_M_at.toNatClampNeg)).toInt64)) - (96 : Int64)) v_M_at v_M_begin v_M_kind v_M_value _ _ _ hl hP hD hS hg
  have B157 : ∀ (t1 : Int32) (t2 : Int32) (v_M_at : Int32) (v_M_begin : Int32) (v_M_kind : Int32) (v_M_value : Int64) (H : Heap) (locs : List Loc) (ls : Array Slot) (hl : lv_has ls 2 [(0, .ref q_M)]) (hP : va_P D vwCl (ws_X11_next cI cJ cZ cA q_M q_M_text u_M_now u_M_images u_M_kept u_M_sign u_M_manyAbove u_M_manyBelow u_M_above u_M_below u_M_refused u_M_read u_M_acts u_M_act u_M_waits u_M_wait u_M_held u_M_place u_M_heap u_M_clocks u_M_counts u_M_talking u_M_most u_M_hasA u_M_hasB u_M_talks u_M_big v_M_size v_M_at v_M_begin v_M_kind v_M_value a_M_text) H) (hD : va_D A (ws_X11_next cI cJ cZ cA q_M q_M_text u_M_now u_M_images u_M_kept u_M_sign u_M_manyAbove u_M_manyBelow u_M_above u_M_below u_M_refused u_M_read u_M_acts u_M_act u_M_waits u_M_wait u_M_held u_M_place u_M_heap u_M_clocks u_M_counts u_M_talking u_M_most u_M_hasA u_M_hasB u_M_talks u_M_big v_M_size v_M_at v_M_begin v_M_kind v_M_value a_M_text)) (hS : va_S A s.heap H locs), g_X11_next_157 v_M_size a_M_text t1 t2 v_M_at v_M_begin v_M_kind v_M_value = some o → W p l e rm_X11_next s m args below meth c H locs 0 0 Q (F0 m 157 ls [.int t2, .int t1, .ref q_M]) := by
    intro  t1 t2 v_M_at v_M_begin v_M_kind v_M_value H locs ls hl hP hD hS hg
    refine lv_iadd hx hb dX11_next_157 ?_
    refine zputf (C := RX11) (T := TX11) (N := 31) (ty := .int) S hK hP hD hS 0 rfl rfl 11 (Nat.le_of_ble_eq_true rfl) zf_11 tyX11 tyX11_ok nmX11 zw_454 rfl (by decide +kernel) rfl rfl (Nat.le_of_ble_eq_true rfl) dX11_next_158 (w2 := (ws_X11_next cI cJ cZ cA q_M q_M_text u_M_now u_M_images u_M_kept u_M_sign u_M_manyAbove u_M_manyBelow u_M_above u_M_below u_M_refused u_M_read u_M_acts u_M_act u_M_waits u_M_wait u_M_held u_M_place u_M_heap u_M_clocks u_M_counts u_M_talking u_M_most u_M_hasA u_M_hasB u_M_talks u_M_big v_M_size (t1 + t2) v_M_begin v_M_kind v_M_value a_M_text)) rfl (fun H locs hP hD hS => ?_)
    exact B161 zF (t1 + t2) v_M_begin v_M_kind v_M_value _ _ _ hl hP hD hS hg
  have B152 : ∀ (t1 : Int32) (v_M_at : Int32) (v_M_begin : Int32) (v_M_kind : Int32) (v_M_value : Int64) (H : Heap) (locs : List Loc) (ls : Array Slot) (hl : lv_has ls 2 [(0, .ref q_M)]) (hP : va_P D vwCl (ws_X11_next cI cJ cZ cA q_M q_M_text u_M_now u_M_images u_M_kept u_M_sign u_M_manyAbove u_M_manyBelow u_M_above u_M_below u_M_refused u_M_read u_M_acts u_M_act u_M_waits u_M_wait u_M_held u_M_place u_M_heap u_M_clocks u_M_counts u_M_talking u_M_most u_M_hasA u_M_hasB u_M_talks u_M_big v_M_size v_M_at v_M_begin v_M_kind v_M_value a_M_text) H) (hD : va_D A (ws_X11_next cI cJ cZ cA q_M q_M_text u_M_now u_M_images u_M_kept u_M_sign u_M_manyAbove u_M_manyBelow u_M_above u_M_below u_M_refused u_M_read u_M_acts u_M_act u_M_waits u_M_wait u_M_held u_M_place u_M_heap u_M_clocks u_M_counts u_M_talking u_M_most u_M_hasA u_M_hasB u_M_talks u_M_big v_M_size v_M_at v_M_begin v_M_kind v_M_value a_M_text)) (hS : va_S A s.heap H locs), g_X11_next_152 v_M_size a_M_text t1 v_M_at v_M_begin v_M_kind v_M_value = some o → W p l e rm_X11_next s m args below meth c H locs 0 0 Q (F0 m 152 ls [.int t1, .ref q_M]) := by
    intro  t1 v_M_at v_M_begin v_M_kind v_M_value H locs ls hl hP hD hS hg
    refine lv_iconst (v := 1) hx hb dX11_next_152 (by decide) ?_
    refine lv_goto (tgt := 157) hx hb dX11_next_153 (by decide) ?_
    exact B157 t1 1 v_M_at v_M_begin v_M_kind v_M_value _ _ _ hl hP hD hS hg
  have B128 : ∀ (t1 : Int32) (v_M_at : Int32) (v_M_begin : Int32) (v_M_kind : Int32) (v_M_value : Int64) (H : Heap) (locs : List Loc) (ls : Array Slot) (hl : lv_has ls 2 [(0, .ref q_M)]) (hP : va_P D vwCl (ws_X11_next cI cJ cZ cA q_M q_M_text u_M_now u_M_images u_M_kept u_M_sign u_M_manyAbove u_M_manyBelow u_M_above u_M_below u_M_refused u_M_read u_M_acts u_M_act u_M_waits u_M_wait u_M_held u_M_place u_M_heap u_M_clocks u_M_counts u_M_talking u_M_most u_M_hasA u_M_hasB u_M_talks u_M_big v_M_size v_M_at v_M_begin v_M_kind v_M_value a_M_text) H) (hD : va_D A (ws_X11_next cI cJ cZ cA q_M q_M_text u_M_now u_M_images u_M_kept u_M_sign u_M_manyAbove u_M_manyBelow u_M_above u_M_below u_M_refused u_M_read u_M_acts u_M_act u_M_waits u_M_wait u_M_held u_M_place u_M_heap u_M_clocks u_M_counts u_M_talking u_M_most u_M_hasA u_M_hasB u_M_talks u_M_big v_M_size v_M_at v_M_begin v_M_kind v_M_value a_M_text)) (hS : va_S A s.heap H locs), g_X11_next_128 v_M_size a_M_text t1 v_M_at v_M_begin v_M_kind v_M_value = some o → W p l e rm_X11_next s m args below meth c H locs 0 0 Q (F0 m 128 ls [.int t1, .ref q_M]) := by
    intro  t1 v_M_at v_M_begin v_M_kind v_M_value H locs ls hl hP hD hS hg
    refine zputf (C := RX11) (T := TX11) (N := 31) (ty := .int) S hK hP hD hS 0 rfl rfl 13 (Nat.le_of_ble_eq_true rfl) zf_11 tyX11 tyX11_ok nmX11 zw_455 rfl (by decide +kernel) rfl rfl (Nat.le_of_ble_eq_true rfl) dX11_next_128 (w2 := (ws_X11_next cI cJ cZ cA q_M q_M_text u_M_now u_M_images u_M_kept u_M_sign u_M_manyAbove u_M_manyBelow u_M_above u_M_below u_M_refused u_M_read u_M_acts u_M_act u_M_waits u_M_wait u_M_held u_M_place u_M_heap u_M_clocks u_M_counts u_M_talking u_M_most u_M_hasA u_M_hasB u_M_talks u_M_big v_M_size v_M_at v_M_begin t1 v_M_value a_M_text)) rfl (fun H locs hP hD hS => ?_)
    refine lv_aload_n hx hb dX11_next_131 rfl (lv_at hl 0 rfl) ?_
    refine lv_dup hx hb dX11_next_132 rfl ?_
    refine zget (C := RX11) (T := TX11) (N := 31) S hK hP 0 rfl rfl 11 (Nat.le_of_ble_eq_true rfl) zf_11 zw_454 rfl dX11_next_133 ?_
    refine lv_aload_n hx hb dX11_next_136 rfl (lv_at hl 0 rfl) ?_
    refine zget (C := RX11) (T := TX11) (N := 31) S hK hP 0 rfl rfl 13 (Nat.le_of_ble_eq_true rfl) zf_11 zw_455 rfl dX11_next_137 ?_
    refine lv_iconst (v := 3) hx hb dX11_next_140 (by decide) ?_
    refine lv_icmp_eq (tgt := 152) hx hb dX11_next_141 (by decide) (fun h141 => ?_) (fun h141 => ?_)
    · have hg := zp hg h141
      exact B152 v_M_at v_M_at v_M_begin t1 v_M_value _ _ _ hl hP hD hS hg
    · have hg := zn hg h141
      refine lv_aload_n hx hb dX11_next_144 rfl (lv_at hl 0 rfl) ?_
      refine zget (C := RX11) (T := TX11) (N := 31) S hK hP 0 rfl rfl 13 (Nat.le_of_ble_eq_true rfl) zf_11 zw_455 rfl dX11_next_145 ?_
      refine lv_iconst (v := 4) hx hb dX11_next_148 (by decide) ?_
      refine lv_icmp_ne (tgt := 156) hx hb dX11_next_149 (by decide) (fun h149 => ?_) (fun h149 => ?_)
      · have hg := zn hg h149
        refine lv_iconst (v := 0) hx hb dX11_next_156 (by decide) ?_
        exact B157 v_M_at 0 v_M_at v_M_begin t1 v_M_value _ _ _ hl hP hD hS hg
      · have hg := zp hg h149
        exact B152 v_M_at v_M_at v_M_begin t1 v_M_value _ _ _ hl hP hD hS hg
  have B75 : ∀ (t0 : Int32) (v_M_at : Int32) (v_M_begin : Int32) (v_M_kind : Int32) (v_M_value : Int64) (H : Heap) (locs : List Loc) (ls : Array Slot) (hl : lv_has ls 2 [(0, .ref q_M)]) (hP : va_P D vwCl (ws_X11_next cI cJ cZ cA q_M q_M_text u_M_now u_M_images u_M_kept u_M_sign u_M_manyAbove u_M_manyBelow u_M_above u_M_below u_M_refused u_M_read u_M_acts u_M_act u_M_waits u_M_wait u_M_held u_M_place u_M_heap u_M_clocks u_M_counts u_M_talking u_M_most u_M_hasA u_M_hasB u_M_talks u_M_big v_M_size v_M_at v_M_begin v_M_kind v_M_value a_M_text) H) (hD : va_D A (ws_X11_next cI cJ cZ cA q_M q_M_text u_M_now u_M_images u_M_kept u_M_sign u_M_manyAbove u_M_manyBelow u_M_above u_M_below u_M_refused u_M_read u_M_acts u_M_act u_M_waits u_M_wait u_M_held u_M_place u_M_heap u_M_clocks u_M_counts u_M_talking u_M_most u_M_hasA u_M_hasB u_M_talks u_M_big v_M_size v_M_at v_M_begin v_M_kind v_M_value a_M_text)) (hS : va_S A s.heap H locs), g_X11_next_75 v_M_size a_M_text t0 v_M_at v_M_begin v_M_kind v_M_value = some o → W p l e rm_X11_next s m args below meth c H locs 0 0 Q (F0 m 75 ls [.int t0]) := by
    intro  t0 v_M_at v_M_begin v_M_kind v_M_value H locs ls hl hP hD hS hg
    refine lv_istore_n (lv' := [(1, .int t0), (0, .ref q_M)]) hx hb dX11_next_75 rfl hl (by decide) rfl (fun ls hl => ?_)
    refine lv_aload_n hx hb dX11_next_76 rfl (lv_at hl 1 rfl) ?_
    refine lv_iload_n hx hb dX11_next_77 rfl (lv_at hl 0 rfl) ?_
    refine lv_if_ge (tgt := 85) hx hb dX11_next_78 (by decide) (fun h78 => ?_) (fun h78 => ?_)
    · have hg := zp hg h78
      refine lv_iload_n hx hb dX11_next_85 rfl (lv_at hl 0 rfl) ?_
      obtain ⟨v1, hc2, hg⟩ := zbd hg
      refine zcallS (rest := [.ref q_M]) S (c_X11_isLetter l D cI cJ cZ cA ga t0 v1 hc2) (zgS zw_474 zw_475 zw_5 zw_476) rfl hd_X11_isLetter ⟨rfl, rfl⟩ ⟨Nat.le_of_ble_eq_true rfl, Nat.le_of_ble_eq_true rfl⟩ rfl hl.1 rfl (Nat.le_of_ble_eq_true rfl) dX11_next_86 hP hD hS hA hK hG (isC := []) rfl (by decide +kernel) rfl ⟨Nat.zero_le _, Nat.zero_le _⟩ (pl := [none, none]) (nw := 2) rfl (by decide +kernel) (w2 := (ws_X11_next cI cJ cZ cA q_M q_M_text u_M_now u_M_images u_M_kept u_M_sign u_M_manyAbove u_M_manyBelow u_M_above u_M_below u_M_refused u_M_read u_M_acts u_M_act u_M_waits u_M_wait u_M_held u_M_place u_M_heap u_M_clocks u_M_counts u_M_talking u_M_most u_M_hasA u_M_hasB u_M_talks u_M_big v_M_size v_M_at v_M_begin v_M_kind v_M_value a_M_text)) rfl (st1 := [.int v1, .ref q_M]) rfl (fun H locs hP hD hS => ?_)
      refine lv_if_eq (tgt := 96) hx hb dX11_next_89 (by decide) (fun h89 => ?_) (fun h89 => ?_)
      · have hg := zp hg h89
        refine lv_iload_n hx hb dX11_next_96 rfl (lv_at hl 0 rfl) ?_
        obtain ⟨v3, hc4, hg⟩ := zbd hg
        refine zcallS (rest := [.ref q_M]) S (c_X11_isFigure l D cI cJ cZ cA ga t0 v3 hc4) (zgS zw_479 zw_480 zw_5 zw_481) rfl hd_X11_isFigure ⟨rfl, rfl⟩ ⟨Nat.le_of_ble_eq_true rfl, Nat.le_of_ble_eq_true rfl⟩ rfl hl.1 rfl (Nat.le_of_ble_eq_true rfl) dX11_next_97 hP hD hS hA hK hG (isC := []) rfl (by decide +kernel) rfl ⟨Nat.zero_le _, Nat.zero_le _⟩ (pl := [none, none]) (nw := 2) rfl (by decide +kernel) (w2 := (ws_X11_next cI cJ cZ cA q_M q_M_text u_M_now u_M_images u_M_kept u_M_sign u_M_manyAbove u_M_manyBelow u_M_above u_M_below u_M_refused u_M_read u_M_acts u_M_act u_M_waits u_M_wait u_M_held u_M_place u_M_heap u_M_clocks u_M_counts u_M_talking u_M_most u_M_hasA u_M_hasB u_M_talks u_M_big v_M_size v_M_at v_M_begin v_M_kind v_M_value a_M_text)) rfl (st1 := [.int v3, .ref q_M]) rfl (fun H locs hP hD hS => ?_)
        refine lv_if_eq (tgt := 107) hx hb dX11_next_100 (by decide) (fun h100 => ?_) (fun h100 => ?_)
        · have hg := zp hg h100
          refine lv_iload_n hx hb dX11_next_107 rfl (lv_at hl 0 rfl) ?_
          refine lv_bipush (v := 45) hx hb dX11_next_108 (by decide) ?_
          refine lv_icmp_ne (tgt := 117) hx hb dX11_next_110 (by decide) (fun h110 => ?_) (fun h110 => ?_)
          · have hg := zn hg h110
            refine lv_iload_n hx hb dX11_next_117 rfl (lv_at hl 0 rfl) ?_
            refine lv_bipush (v := 59) hx hb dX11_next_118 (by decide) ?_
            refine lv_icmp_ne (tgt := 127) hx hb dX11_next_120 (by decide) (fun h120 => ?_) (fun h120 => ?_)
            · have hg := zn hg h120
              refine lv_iconst (v := 5) hx hb dX11_next_127 (by decide) ?_
              exact B128 5 v_M_at v_M_begin v_M_kind v_M_value _ _ _ (lv_sub hl [1] rfl) hP hD hS hg
            · have hg := zp hg h120
              refine lv_iconst (v := 4) hx hb dX11_next_123 (by decide) ?_
              refine lv_goto (tgt := 128) hx hb dX11_next_124 (by decide) ?_
              exact B128 4 v_M_at v_M_begin v_M_kind v_M_value _ _ _ (lv_sub hl [1] rfl) hP hD hS hg
          · have hg := zp hg h110
            refine lv_iconst (v := 3) hx hb dX11_next_113 (by decide) ?_
            refine lv_goto (tgt := 128) hx hb dX11_next_114 (by decide) ?_
            exact B128 3 v_M_at v_M_begin v_M_kind v_M_value _ _ _ (lv_sub hl [1] rfl) hP hD hS hg
        · have hg := zn hg h100
          refine lv_iconst (v := 2) hx hb dX11_next_103 (by decide) ?_
          refine lv_goto (tgt := 128) hx hb dX11_next_104 (by decide) ?_
          exact B128 2 v_M_at v_M_begin v_M_kind v_M_value _ _ _ (lv_sub hl [1] rfl) hP hD hS hg
      · have hg := zn hg h89
        refine lv_iconst (v := 1) hx hb dX11_next_92 (by decide) ?_
        refine lv_goto (tgt := 128) hx hb dX11_next_93 (by decide) ?_
        exact B128 1 v_M_at v_M_begin v_M_kind v_M_value _ _ _ (lv_sub hl [1] rfl) hP hD hS hg
    · have hg := zn hg h78
      refine lv_iconst (v := 0) hx hb dX11_next_81 (by decide) ?_
      refine lv_goto (tgt := 128) hx hb dX11_next_82 (by decide) ?_
      exact B128 0 v_M_at v_M_begin v_M_kind v_M_value _ _ _ (lv_sub hl [1] rfl) hP hD hS hg
  have B38 : ∀ (v_M_at : Int32) (v_M_begin : Int32) (v_M_kind : Int32) (v_M_value : Int64) (H : Heap) (locs : List Loc) (ls : Array Slot) (hl : lv_has ls 2 [(0, .ref q_M)]) (hP : va_P D vwCl (ws_X11_next cI cJ cZ cA q_M q_M_text u_M_now u_M_images u_M_kept u_M_sign u_M_manyAbove u_M_manyBelow u_M_above u_M_below u_M_refused u_M_read u_M_acts u_M_act u_M_waits u_M_wait u_M_held u_M_place u_M_heap u_M_clocks u_M_counts u_M_talking u_M_most u_M_hasA u_M_hasB u_M_talks u_M_big v_M_size v_M_at v_M_begin v_M_kind v_M_value a_M_text) H) (hD : va_D A (ws_X11_next cI cJ cZ cA q_M q_M_text u_M_now u_M_images u_M_kept u_M_sign u_M_manyAbove u_M_manyBelow u_M_above u_M_below u_M_refused u_M_read u_M_acts u_M_act u_M_waits u_M_wait u_M_held u_M_place u_M_heap u_M_clocks u_M_counts u_M_talking u_M_most u_M_hasA u_M_hasB u_M_talks u_M_big v_M_size v_M_at v_M_begin v_M_kind v_M_value a_M_text)) (hS : va_S A s.heap H locs), g_X11_next_38 v_M_size a_M_text v_M_at v_M_begin v_M_kind v_M_value = some o → W p l e rm_X11_next s m args below meth c H locs 0 0 Q (F0 m 38 ls []) := by
    intro  v_M_at v_M_begin v_M_kind v_M_value H locs ls hl hP hD hS hg
    refine lv_aload_n hx hb dX11_next_38 rfl (lv_at hl 0 rfl) ?_
    refine lv_aload_n hx hb dX11_next_39 rfl (lv_at hl 0 rfl) ?_
    refine zget (C := RX11) (T := TX11) (N := 31) S hK hP 0 rfl rfl 11 (Nat.le_of_ble_eq_true rfl) zf_11 zw_454 rfl dX11_next_40 ?_
    refine zputf (C := RX11) (T := TX11) (N := 31) (ty := .int) S hK hP hD hS 0 rfl rfl 12 (Nat.le_of_ble_eq_true rfl) zf_11 tyX11 tyX11_ok nmX11 zw_449 rfl (by decide +kernel) rfl rfl (Nat.le_of_ble_eq_true rfl) dX11_next_43 (w2 := (ws_X11_next cI cJ cZ cA q_M q_M_text u_M_now u_M_images u_M_kept u_M_sign u_M_manyAbove u_M_manyBelow u_M_above u_M_below u_M_refused u_M_read u_M_acts u_M_act u_M_waits u_M_wait u_M_held u_M_place u_M_heap u_M_clocks u_M_counts u_M_talking u_M_most u_M_hasA u_M_hasB u_M_talks u_M_big v_M_size v_M_at v_M_at v_M_kind v_M_value a_M_text)) rfl (fun H locs hP hD hS => ?_)
    refine lv_aload_n hx hb dX11_next_46 rfl (lv_at hl 0 rfl) ?_
    refine lv_lconst (v := 0) hx hb dX11_next_47 (by decide) ?_
    refine zputf (C := RX11) (T := TX11) (N := 31) (ty := .long) S hK hP hD hS 0 rfl rfl 14 (Nat.le_of_ble_eq_true rfl) zf_11 tyX11 tyX11_ok nmX11 zw_456 rfl (by decide +kernel) rfl rfl (Nat.le_of_ble_eq_true rfl) dX11_next_48 (w2 := (ws_X11_next cI cJ cZ cA q_M q_M_text u_M_now u_M_images u_M_kept u_M_sign u_M_manyAbove u_M_manyBelow u_M_above u_M_below u_M_refused u_M_read u_M_acts u_M_act u_M_waits u_M_wait u_M_held u_M_place u_M_heap u_M_clocks u_M_counts u_M_talking u_M_most u_M_hasA u_M_hasB u_M_talks u_M_big v_M_size v_M_at v_M_at v_M_kind (0 : Int64) a_M_text)) rfl (fun H locs hP hD hS => ?_)
    refine lv_aload_n hx hb dX11_next_51 rfl (lv_at hl 0 rfl) ?_
    refine zget (C := RX11) (T := TX11) (N := 31) S hK hP 0 rfl rfl 11 (Nat.le_of_ble_eq_true rfl) zf_11 zw_454 rfl dX11_next_52 ?_
    refine lv_aload_n hx hb dX11_next_55 rfl (lv_at hl 0 rfl) ?_
    refine zget (C := RX11) (T := TX11) (N := 31) S hK hP 0 rfl rfl 4 (Nat.le_of_ble_eq_true rfl) zf_11 zw_308 rfl dX11_next_56 ?_
    refine lv_icmp_ge (tgt := 74) hx hb dX11_next_59 (by decide) (fun h59 => ?_) (fun h59 => ?_)
    · have hg := zp hg h59
      refine lv_iconst (v := (-1)) hx hb dX11_next_74 (by decide) ?_
      exact B75 (-1) v_M_at v_M_at v_M_kind (0 : Int64) _ _ _ hl hP hD hS hg
    · have hg := zn hg h59
      refine lv_aload_n hx hb dX11_next_62 rfl (lv_at hl 0 rfl) ?_
      refine zget (C := RX11) (T := TX11) (N := 31) S hK hP 0 rfl rfl 3 (Nat.le_of_ble_eq_true rfl) zf_11 zw_152 rfl dX11_next_63 ?_
      refine lv_aload_n hx hb dX11_next_66 rfl (lv_at hl 0 rfl) ?_
      refine zget (C := RX11) (T := TX11) (N := 31) S hK hP 0 rfl rfl 11 (Nat.le_of_ble_eq_true rfl) zf_11 zw_454 rfl dX11_next_67 ?_
      obtain ⟨h13, hg⟩ := zck hg
      refine ziald hx hb hK hP 1 0 rfl rfl (j := (v_M_at.toNatClampNeg)) h13 rfl dX11_next_70 ?_
      refine lv_goto (tgt := 75) hx hb dX11_next_71 (by decide) ?_
      exact B75 (a_M_text (v_M_at.toNatClampNeg)) v_M_at v_M_at v_M_kind (0 : Int64) _ _ _ hl hP hD hS hg
  have B0 : ∀  (n : Nat) (v_M_at : Int32) (v_M_begin : Int32) (v_M_kind : Int32) (v_M_value : Int64) (H : Heap) (locs : List Loc) (ls : Array Slot) (hl : lv_has ls 2 [(0, .ref q_M)]) (hP : va_P D vwCl (ws_X11_next cI cJ cZ cA q_M q_M_text u_M_now u_M_images u_M_kept u_M_sign u_M_manyAbove u_M_manyBelow u_M_above u_M_below u_M_refused u_M_read u_M_acts u_M_act u_M_waits u_M_wait u_M_held u_M_place u_M_heap u_M_clocks u_M_counts u_M_talking u_M_most u_M_hasA u_M_hasB u_M_talks u_M_big v_M_size v_M_at v_M_begin v_M_kind v_M_value a_M_text) H) (hD : va_D A (ws_X11_next cI cJ cZ cA q_M q_M_text u_M_now u_M_images u_M_kept u_M_sign u_M_manyAbove u_M_manyBelow u_M_above u_M_below u_M_refused u_M_read u_M_acts u_M_act u_M_waits u_M_wait u_M_held u_M_place u_M_heap u_M_clocks u_M_counts u_M_talking u_M_most u_M_hasA u_M_hasB u_M_talks u_M_big v_M_size v_M_at v_M_begin v_M_kind v_M_value a_M_text)) (hS : va_S A s.heap H locs), g_X11_next_0 v_M_size a_M_text n v_M_at v_M_begin v_M_kind v_M_value = some o → W p l e rm_X11_next s m args below meth c H locs 0 0 Q (F0 m 0 ls []) := by
    intro  n
    induction n with
    | zero => intro v_M_at v_M_begin v_M_kind v_M_value H locs ls hl hP hD hS hg; exact nomatch (show (none : Option (Int32 × Int32 × Int32 × Int64)) = some o from hg)
    | succ n ih =>
      intro v_M_at v_M_begin v_M_kind v_M_value H locs ls hl hP hD hS hg
      have hg : g_X11_next_0b v_M_size a_M_text (g_X11_next_0 v_M_size a_M_text n) v_M_at v_M_begin v_M_kind v_M_value = some o := hg
      refine lv_aload_n hx hb dX11_next_0 rfl (lv_at hl 0 rfl) ?_
      refine zget (C := RX11) (T := TX11) (N := 31) S hK hP 0 rfl rfl 11 (Nat.le_of_ble_eq_true rfl) zf_11 zw_454 rfl dX11_next_1 ?_
      refine lv_aload_n hx hb dX11_next_4 rfl (lv_at hl 0 rfl) ?_
      refine zget (C := RX11) (T := TX11) (N := 31) S hK hP 0 rfl rfl 4 (Nat.le_of_ble_eq_true rfl) zf_11 zw_308 rfl dX11_next_5 ?_
      refine lv_icmp_ge (tgt := 38) hx hb dX11_next_8 (by decide) (fun h8 => ?_) (fun h8 => ?_)
      · have hg := zp hg h8
        exact B38 v_M_at v_M_begin v_M_kind v_M_value _ _ _ hl hP hD hS hg
      · have hg := zn hg h8
        refine lv_aload_n hx hb dX11_next_11 rfl (lv_at hl 0 rfl) ?_
        refine zget (C := RX11) (T := TX11) (N := 31) S hK hP 0 rfl rfl 3 (Nat.le_of_ble_eq_true rfl) zf_11 zw_152 rfl dX11_next_12 ?_
        refine lv_aload_n hx hb dX11_next_15 rfl (lv_at hl 0 rfl) ?_
        refine zget (C := RX11) (T := TX11) (N := 31) S hK hP 0 rfl rfl 11 (Nat.le_of_ble_eq_true rfl) zf_11 zw_454 rfl dX11_next_16 ?_
        obtain ⟨h14, hg⟩ := zck hg
        refine ziald hx hb hK hP 1 0 rfl rfl (j := (v_M_at.toNatClampNeg)) h14 rfl dX11_next_19 ?_
        refine lv_bipush (v := 32) hx hb dX11_next_20 (by decide) ?_
        refine lv_icmp_ne (tgt := 38) hx hb dX11_next_22 (by decide) (fun h22 => ?_) (fun h22 => ?_)
        · have hg := zn hg h22
          exact B38 v_M_at v_M_begin v_M_kind v_M_value _ _ _ hl hP hD hS hg
        · have hg := zp hg h22
          refine lv_aload_n hx hb dX11_next_25 rfl (lv_at hl 0 rfl) ?_
          refine lv_dup hx hb dX11_next_26 rfl ?_
          refine zget (C := RX11) (T := TX11) (N := 31) S hK hP 0 rfl rfl 11 (Nat.le_of_ble_eq_true rfl) zf_11 zw_454 rfl dX11_next_27 ?_
          refine lv_iconst (v := 1) hx hb dX11_next_30 (by decide) ?_
          refine lv_iadd hx hb dX11_next_31 ?_
          refine zputf (C := RX11) (T := TX11) (N := 31) (ty := .int) S hK hP hD hS 0 rfl rfl 11 (Nat.le_of_ble_eq_true rfl) zf_11 tyX11 tyX11_ok nmX11 zw_454 rfl (by decide +kernel) rfl rfl (Nat.le_of_ble_eq_true rfl) dX11_next_32 (w2 := (ws_X11_next cI cJ cZ cA q_M q_M_text u_M_now u_M_images u_M_kept u_M_sign u_M_manyAbove u_M_manyBelow u_M_above u_M_below u_M_refused u_M_read u_M_acts u_M_act u_M_waits u_M_wait u_M_held u_M_place u_M_heap u_M_clocks u_M_counts u_M_talking u_M_most u_M_hasA u_M_hasB u_M_talks u_M_big v_M_size (v_M_at + 1) v_M_begin v_M_kind v_M_value a_M_text)) rfl (fun H locs hP hD hS => ?_)
          refine lv_goto (tgt := 0) hx hb dX11_next_35 (by decide) ?_
          exact ih (v_M_at + 1) v_M_begin v_M_kind v_M_value _ _ _ hl hP hD hS hg
  exact B0 zF v_M_at v_M_begin v_M_kind v_M_value _ _ _ hl hP hD hS hg

/-! SpokenClockModel.takes(II)Z -/
abbrev ws_X11_takes (cI cJ cZ cA : ClassId) (q_M q_M_text : Nat) (u_M_now : Value) (u_M_images : Value) (u_M_kept : Value) (u_M_sign : Value) (u_M_manyAbove : Value) (u_M_manyBelow : Value) (u_M_above : Value) (u_M_below : Value) (u_M_refused : Value) (u_M_read : Value) (u_M_acts : Value) (u_M_act : Value) (u_M_waits : Value) (u_M_wait : Value) (u_M_held : Value) (u_M_place : Value) (u_M_heap : Value) (u_M_clocks : Value) (u_M_counts : Value) (u_M_talking : Value) (u_M_most : Value) (u_M_hasA : Value) (u_M_hasB : Value) (u_M_talks : Value) (u_M_big : Value) (v_M_size : Int32) (v_M_at : Int32) (v_M_begin : Int32) (v_M_kind : Int32) (v_M_value : Int64) (a_M_text : Nat → Int32) : va_W := [(q_M, .inr (11, [u_M_now, u_M_images, u_M_kept, .ref q_M_text, .int v_M_size, u_M_sign, u_M_manyAbove, u_M_manyBelow, u_M_above, u_M_below, u_M_refused, .int v_M_at, .int v_M_begin, .int v_M_kind, .long v_M_value, u_M_read, u_M_acts, u_M_act, u_M_waits, u_M_wait, u_M_held, u_M_place, u_M_heap, u_M_clocks, u_M_counts, u_M_talking, u_M_most, u_M_hasA, u_M_hasB, u_M_talks, u_M_big])), (q_M_text, .inl (cI, 250, .inl a_M_text))]
abbrev rm_X11_takes : Room := { frames := 3, cells := 0, slots := 0, locals := 66 }
def g_X11_takes (v_M_size : Int32) (a_M_text : Nat → Int32) (x1 : Int32) (x2 : Int32) (v_M_at : Int32) (v_M_begin : Int32) (v_M_kind : Int32) (v_M_value : Int64) : Option (Int32 × Int32 × Int32 × Int32 × Int64) :=
  (g_X11_next v_M_size a_M_text v_M_at v_M_begin v_M_kind v_M_value).bind fun v1 =>
  if v1.2.2.1 = 2 then (
    (g_X11_in v1.2.2.2 x1.toInt64 x2.toInt64).bind fun v3 =>
    if v3 = 0 then (
      some (0, v1.1, v1.2.1, v1.2.2.1, v1.2.2.2)
    ) else (
      some (1, v1.1, v1.2.1, v1.2.2.1, v1.2.2.2)
    )
  ) else (
    some (0, v1.1, v1.2.1, v1.2.2.1, v1.2.2.2)
  )
theorem hd_X11_takes : yX11_takes.cls = RX11 ∧ yX11_takes.cls ≠ "java/lang/invoke/MethodHandle" ∧ yX11_takes.cls ≠ "java/lang/invoke/VarHandle" ∧ (parseMethodDescriptor yX11_takes.desc).map (fun d => d.parameters.length) = some 2 := by decide +kernel
set_option maxHeartbeats 4000000 in
set_option maxRecDepth 100000 in
theorem c_X11_takes (l : Launch) (D : va_G) (cI cJ cZ cA : ClassId) (ga : Nat → Nat) (q_M q_M_text : Nat) (u_M_now : Value) (u_M_images : Value) (u_M_kept : Value) (u_M_sign : Value) (u_M_manyAbove : Value) (u_M_manyBelow : Value) (u_M_above : Value) (u_M_below : Value) (u_M_refused : Value) (u_M_read : Value) (u_M_acts : Value) (u_M_act : Value) (u_M_waits : Value) (u_M_wait : Value) (u_M_held : Value) (u_M_place : Value) (u_M_heap : Value) (u_M_clocks : Value) (u_M_counts : Value) (u_M_talking : Value) (u_M_most : Value) (u_M_hasA : Value) (u_M_hasB : Value) (u_M_talks : Value) (u_M_big : Value) (v_M_size : Int32) (v_M_at : Int32) (v_M_begin : Int32) (v_M_kind : Int32) (v_M_value : Int64) (a_M_text : Nat → Int32) (x1 : Int32) (x2 : Int32) (o : Int32 × Int32 × Int32 × Int32 × Int64) (hg : g_X11_takes v_M_size a_M_text x1 x2 v_M_at v_M_begin v_M_kind v_M_value = some o) : zM l yX11_takes (Cond.code yX11_takes cX11_takes 3 (some .boolean) :: wsL_law) rm_X11_takes D (zTy cI cJ cZ cA) ga [.ref q_M, .int x1, .int x2] (ws_X11_takes cI cJ cZ cA q_M q_M_text u_M_now u_M_images u_M_kept u_M_sign u_M_manyAbove u_M_manyBelow u_M_above u_M_below u_M_refused u_M_read u_M_acts u_M_act u_M_waits u_M_wait u_M_held u_M_place u_M_heap u_M_clocks u_M_counts u_M_talking u_M_most u_M_hasA u_M_hasB u_M_talks u_M_big v_M_size v_M_at v_M_begin v_M_kind v_M_value a_M_text) (ws_X11_takes cI cJ cZ cA q_M q_M_text u_M_now u_M_images u_M_kept u_M_sign u_M_manyAbove u_M_manyBelow u_M_above u_M_below u_M_refused u_M_read u_M_acts u_M_act u_M_waits u_M_wait u_M_held u_M_place u_M_heap u_M_clocks u_M_counts u_M_talking u_M_most u_M_hasA u_M_hasB u_M_talks u_M_big v_M_size o.2.1 o.2.2.1 o.2.2.2.1 o.2.2.2.2 a_M_text) (some (.int o.1)) := by
  refine zenterN (own := RX11) (by decide) rfl rfl (Nat.le_of_ble_eq_true rfl) ?_
  intro p e s m args below meth c A ls Q S hA hK hG hl hP hD hS hret0
  have hx := S.1
  have hb := S.2.1
  have ht : ∀ w, w ∈ wsL_law → w.before args s = true := fun w h => S.2.2.2.2 w (List.mem_cons_of_mem _ h)
  have hret : ∀ (r9 : Int32) (v_M_at : Int32) (v_M_begin : Int32) (v_M_kind : Int32) (v_M_value : Int64), (some (r9, v_M_at, v_M_begin, v_M_kind, v_M_value) : Option (Int32 × Int32 × Int32 × Int32 × Int64)) = some o → narrow .boolean (.int r9) = .int r9 → ∀ (H : Heap) (locs : List Loc) (pc : Nat) (ls : Array Slot), va_P D vwCl (ws_X11_takes cI cJ cZ cA q_M q_M_text u_M_now u_M_images u_M_kept u_M_sign u_M_manyAbove u_M_manyBelow u_M_above u_M_below u_M_refused u_M_read u_M_acts u_M_act u_M_waits u_M_wait u_M_held u_M_place u_M_heap u_M_clocks u_M_counts u_M_talking u_M_most u_M_hasA u_M_hasB u_M_talks u_M_big v_M_size v_M_at v_M_begin v_M_kind v_M_value a_M_text) H → va_S A s.heap H locs → decode cX11_takes pc = .ok (.ireturn, 1) → W p l e rm_X11_takes s m args below meth c H locs 0 0 Q (F0 m pc ls [.int r9]) := by
    intro r9 v_M_at v_M_begin v_M_kind v_M_value he; cases he; exact hret0
  have hl : lv_has ls 3 [(0, .ref q_M), (1, .int x1), (2, .int x2)] := hl
  refine lv_aload_n hx hb dX11_takes_0 rfl (lv_at hl 0 rfl) ?_
  obtain ⟨v1, hc2, hg⟩ := zbd hg
  refine zcallV (rest := []) S (c_X11_next l D cI cJ cZ cA ga q_M q_M_text u_M_now u_M_images u_M_kept u_M_sign u_M_manyAbove u_M_manyBelow u_M_above u_M_below u_M_refused u_M_read u_M_acts u_M_act u_M_waits u_M_wait u_M_held u_M_place u_M_heap u_M_clocks u_M_counts u_M_talking u_M_most u_M_hasA u_M_hasB u_M_talks u_M_big v_M_size v_M_at v_M_begin v_M_kind v_M_value a_M_text v1 hc2) (zgV zw_464 zw_465 zw_466 zw_5 zw_467) rfl hd_X11_next ⟨rfl, rfl⟩ ⟨Nat.le_of_ble_eq_true rfl, Nat.le_of_ble_eq_true rfl⟩ 0 11 rfl rfl rfl hl.1 rfl (Nat.le_of_ble_eq_true rfl) dX11_takes_1 hP hD hS hA hK hG (isC := [0, 1]) rfl (by decide +kernel) rfl ⟨Nat.zero_le _, Nat.zero_le _⟩ (pl := [some 0, some 1]) (nw := 2) rfl (by decide +kernel) (w2 := (ws_X11_takes cI cJ cZ cA q_M q_M_text u_M_now u_M_images u_M_kept u_M_sign u_M_manyAbove u_M_manyBelow u_M_above u_M_below u_M_refused u_M_read u_M_acts u_M_act u_M_waits u_M_wait u_M_held u_M_place u_M_heap u_M_clocks u_M_counts u_M_talking u_M_most u_M_hasA u_M_hasB u_M_talks u_M_big v_M_size v1.1 v1.2.1 v1.2.2.1 v1.2.2.2 a_M_text)) rfl (st1 := []) rfl (fun H locs hP hD hS => ?_)
  refine lv_aload_n hx hb dX11_takes_4 rfl (lv_at hl 0 rfl) ?_
  refine zget (C := RX11) (T := TX11) (N := 31) S hK hP 0 rfl rfl 13 (Nat.le_of_ble_eq_true rfl) zf_11 zw_455 rfl dX11_takes_5 ?_
  refine lv_iconst (v := 2) hx hb dX11_takes_8 (by decide) ?_
  refine lv_icmp_ne (tgt := 30) hx hb dX11_takes_9 (by decide) (fun h9 => ?_) (fun h9 => ?_)
  · have hg := zn hg h9
    refine lv_iconst (v := 0) hx hb dX11_takes_30 (by decide) ?_
    exact hret 0 v1.1 v1.2.1 v1.2.2.1 v1.2.2.2 hg (zb01 (Or.inl rfl)) _ _ _ _ hP hS dX11_takes_31
  · have hg := zp hg h9
    refine lv_aload_n hx hb dX11_takes_12 rfl (lv_at hl 0 rfl) ?_
    refine zget (C := RX11) (T := TX11) (N := 31) S hK hP 0 rfl rfl 14 (Nat.le_of_ble_eq_true rfl) zf_11 zw_456 rfl dX11_takes_13 ?_
    refine lv_iload_n hx hb dX11_takes_16 rfl (lv_at hl 1 rfl) ?_
    refine lv_i2l hx hb dX11_takes_17 rfl ?_
    refine lv_iload_n hx hb dX11_takes_18 rfl (lv_at hl 2 rfl) ?_
    refine lv_i2l hx hb dX11_takes_19 rfl ?_
    obtain ⟨v3, hc4, hg⟩ := zbd hg
    refine zcallS (rest := []) S (c_X11_in l D cI cJ cZ cA ga v1.2.2.2 x1.toInt64 x2.toInt64 v3 hc4) (zgS zw_220 zw_221 zw_5 zw_222) rfl hd_X11_in ⟨rfl, rfl⟩ ⟨Nat.le_of_ble_eq_true rfl, Nat.le_of_ble_eq_true rfl⟩ rfl hl.1 rfl (Nat.le_of_ble_eq_true rfl) dX11_takes_20 hP hD hS hA hK hG (isC := []) rfl (by decide +kernel) rfl ⟨Nat.zero_le _, Nat.zero_le _⟩ (pl := [none, none]) (nw := 2) rfl (by decide +kernel) (w2 := (ws_X11_takes cI cJ cZ cA q_M q_M_text u_M_now u_M_images u_M_kept u_M_sign u_M_manyAbove u_M_manyBelow u_M_above u_M_below u_M_refused u_M_read u_M_acts u_M_act u_M_waits u_M_wait u_M_held u_M_place u_M_heap u_M_clocks u_M_counts u_M_talking u_M_most u_M_hasA u_M_hasB u_M_talks u_M_big v_M_size v1.1 v1.2.1 v1.2.2.1 v1.2.2.2 a_M_text)) rfl (st1 := [.int v3]) rfl (fun H locs hP hD hS => ?_)
    refine lv_if_eq (tgt := 30) hx hb dX11_takes_23 (by decide) (fun h23 => ?_) (fun h23 => ?_)
    · have hg := zp hg h23
      refine lv_iconst (v := 0) hx hb dX11_takes_30 (by decide) ?_
      exact hret 0 v1.1 v1.2.1 v1.2.2.1 v1.2.2.2 hg (zb01 (Or.inl rfl)) _ _ _ _ hP hS dX11_takes_31
    · have hg := zn hg h23
      refine lv_iconst (v := 1) hx hb dX11_takes_26 (by decide) ?_
      refine lv_goto (tgt := 31) hx hb dX11_takes_27 (by decide) ?_
      exact hret 1 v1.1 v1.2.1 v1.2.2.1 v1.2.2.2 hg (zb01 (Or.inr rfl)) _ _ _ _ hP hS dX11_takes_31

/-! SpokenClockModel.stops()Z -/
abbrev ws_X11_stops (cI cJ cZ cA : ClassId) (q_M q_M_text : Nat) (u_M_now : Value) (u_M_images : Value) (u_M_kept : Value) (u_M_sign : Value) (u_M_manyAbove : Value) (u_M_manyBelow : Value) (u_M_above : Value) (u_M_below : Value) (u_M_refused : Value) (u_M_read : Value) (u_M_acts : Value) (u_M_act : Value) (u_M_waits : Value) (u_M_wait : Value) (u_M_held : Value) (u_M_place : Value) (u_M_heap : Value) (u_M_clocks : Value) (u_M_counts : Value) (u_M_talking : Value) (u_M_most : Value) (u_M_hasA : Value) (u_M_hasB : Value) (u_M_talks : Value) (u_M_big : Value) (v_M_size : Int32) (v_M_at : Int32) (v_M_begin : Int32) (v_M_kind : Int32) (v_M_value : Int64) (a_M_text : Nat → Int32) : va_W := [(q_M, .inr (11, [u_M_now, u_M_images, u_M_kept, .ref q_M_text, .int v_M_size, u_M_sign, u_M_manyAbove, u_M_manyBelow, u_M_above, u_M_below, u_M_refused, .int v_M_at, .int v_M_begin, .int v_M_kind, .long v_M_value, u_M_read, u_M_acts, u_M_act, u_M_waits, u_M_wait, u_M_held, u_M_place, u_M_heap, u_M_clocks, u_M_counts, u_M_talking, u_M_most, u_M_hasA, u_M_hasB, u_M_talks, u_M_big])), (q_M_text, .inl (cI, 250, .inl a_M_text))]
abbrev rm_X11_stops : Room := { frames := 3, cells := 0, slots := 0, locals := 66 }
def g_X11_stops (v_M_size : Int32) (a_M_text : Nat → Int32) (v_M_at : Int32) (v_M_begin : Int32) (v_M_kind : Int32) (v_M_value : Int64) : Option (Int32 × Int32 × Int32 × Int32 × Int64) :=
  (g_X11_next v_M_size a_M_text v_M_at v_M_begin v_M_kind v_M_value).bind fun v1 =>
  if v1.2.2.1 = 4 then (
    some (1, v1.1, v1.2.1, v1.2.2.1, v1.2.2.2)
  ) else (
    some (0, v1.1, v1.2.1, v1.2.2.1, v1.2.2.2)
  )
theorem hd_X11_stops : yX11_stops.cls = RX11 ∧ yX11_stops.cls ≠ "java/lang/invoke/MethodHandle" ∧ yX11_stops.cls ≠ "java/lang/invoke/VarHandle" ∧ (parseMethodDescriptor yX11_stops.desc).map (fun d => d.parameters.length) = some 0 := by decide +kernel
set_option maxHeartbeats 4000000 in
set_option maxRecDepth 100000 in
theorem c_X11_stops (l : Launch) (D : va_G) (cI cJ cZ cA : ClassId) (ga : Nat → Nat) (q_M q_M_text : Nat) (u_M_now : Value) (u_M_images : Value) (u_M_kept : Value) (u_M_sign : Value) (u_M_manyAbove : Value) (u_M_manyBelow : Value) (u_M_above : Value) (u_M_below : Value) (u_M_refused : Value) (u_M_read : Value) (u_M_acts : Value) (u_M_act : Value) (u_M_waits : Value) (u_M_wait : Value) (u_M_held : Value) (u_M_place : Value) (u_M_heap : Value) (u_M_clocks : Value) (u_M_counts : Value) (u_M_talking : Value) (u_M_most : Value) (u_M_hasA : Value) (u_M_hasB : Value) (u_M_talks : Value) (u_M_big : Value) (v_M_size : Int32) (v_M_at : Int32) (v_M_begin : Int32) (v_M_kind : Int32) (v_M_value : Int64) (a_M_text : Nat → Int32) (o : Int32 × Int32 × Int32 × Int32 × Int64) (hg : g_X11_stops v_M_size a_M_text v_M_at v_M_begin v_M_kind v_M_value = some o) : zM l yX11_stops (Cond.code yX11_stops cX11_stops 1 (some .boolean) :: wsL_law) rm_X11_stops D (zTy cI cJ cZ cA) ga [.ref q_M] (ws_X11_stops cI cJ cZ cA q_M q_M_text u_M_now u_M_images u_M_kept u_M_sign u_M_manyAbove u_M_manyBelow u_M_above u_M_below u_M_refused u_M_read u_M_acts u_M_act u_M_waits u_M_wait u_M_held u_M_place u_M_heap u_M_clocks u_M_counts u_M_talking u_M_most u_M_hasA u_M_hasB u_M_talks u_M_big v_M_size v_M_at v_M_begin v_M_kind v_M_value a_M_text) (ws_X11_stops cI cJ cZ cA q_M q_M_text u_M_now u_M_images u_M_kept u_M_sign u_M_manyAbove u_M_manyBelow u_M_above u_M_below u_M_refused u_M_read u_M_acts u_M_act u_M_waits u_M_wait u_M_held u_M_place u_M_heap u_M_clocks u_M_counts u_M_talking u_M_most u_M_hasA u_M_hasB u_M_talks u_M_big v_M_size o.2.1 o.2.2.1 o.2.2.2.1 o.2.2.2.2 a_M_text) (some (.int o.1)) := by
  refine zenterN (own := RX11) (by decide) rfl rfl (Nat.le_of_ble_eq_true rfl) ?_
  intro p e s m args below meth c A ls Q S hA hK hG hl hP hD hS hret0
  have hx := S.1
  have hb := S.2.1
  have ht : ∀ w, w ∈ wsL_law → w.before args s = true := fun w h => S.2.2.2.2 w (List.mem_cons_of_mem _ h)
  have hret : ∀ (r9 : Int32) (v_M_at : Int32) (v_M_begin : Int32) (v_M_kind : Int32) (v_M_value : Int64), (some (r9, v_M_at, v_M_begin, v_M_kind, v_M_value) : Option (Int32 × Int32 × Int32 × Int32 × Int64)) = some o → narrow .boolean (.int r9) = .int r9 → ∀ (H : Heap) (locs : List Loc) (pc : Nat) (ls : Array Slot), va_P D vwCl (ws_X11_stops cI cJ cZ cA q_M q_M_text u_M_now u_M_images u_M_kept u_M_sign u_M_manyAbove u_M_manyBelow u_M_above u_M_below u_M_refused u_M_read u_M_acts u_M_act u_M_waits u_M_wait u_M_held u_M_place u_M_heap u_M_clocks u_M_counts u_M_talking u_M_most u_M_hasA u_M_hasB u_M_talks u_M_big v_M_size v_M_at v_M_begin v_M_kind v_M_value a_M_text) H → va_S A s.heap H locs → decode cX11_stops pc = .ok (.ireturn, 1) → W p l e rm_X11_stops s m args below meth c H locs 0 0 Q (F0 m pc ls [.int r9]) := by
    intro r9 v_M_at v_M_begin v_M_kind v_M_value he; cases he; exact hret0
  have hl : lv_has ls 1 [(0, .ref q_M)] := hl
  refine lv_aload_n hx hb dX11_stops_0 rfl (lv_at hl 0 rfl) ?_
  obtain ⟨v1, hc2, hg⟩ := zbd hg
  refine zcallV (rest := []) S (c_X11_next l D cI cJ cZ cA ga q_M q_M_text u_M_now u_M_images u_M_kept u_M_sign u_M_manyAbove u_M_manyBelow u_M_above u_M_below u_M_refused u_M_read u_M_acts u_M_act u_M_waits u_M_wait u_M_held u_M_place u_M_heap u_M_clocks u_M_counts u_M_talking u_M_most u_M_hasA u_M_hasB u_M_talks u_M_big v_M_size v_M_at v_M_begin v_M_kind v_M_value a_M_text v1 hc2) (zgV zw_464 zw_465 zw_466 zw_5 zw_467) rfl hd_X11_next ⟨rfl, rfl⟩ ⟨Nat.le_of_ble_eq_true rfl, Nat.le_of_ble_eq_true rfl⟩ 0 11 rfl rfl rfl hl.1 rfl (Nat.le_of_ble_eq_true rfl) dX11_stops_1 hP hD hS hA hK hG (isC := [0, 1]) rfl (by decide +kernel) rfl ⟨Nat.zero_le _, Nat.zero_le _⟩ (pl := [some 0, some 1]) (nw := 2) rfl (by decide +kernel) (w2 := (ws_X11_stops cI cJ cZ cA q_M q_M_text u_M_now u_M_images u_M_kept u_M_sign u_M_manyAbove u_M_manyBelow u_M_above u_M_below u_M_refused u_M_read u_M_acts u_M_act u_M_waits u_M_wait u_M_held u_M_place u_M_heap u_M_clocks u_M_counts u_M_talking u_M_most u_M_hasA u_M_hasB u_M_talks u_M_big v_M_size v1.1 v1.2.1 v1.2.2.1 v1.2.2.2 a_M_text)) rfl (st1 := []) rfl (fun H locs hP hD hS => ?_)
  refine lv_aload_n hx hb dX11_stops_4 rfl (lv_at hl 0 rfl) ?_
  refine zget (C := RX11) (T := TX11) (N := 31) S hK hP 0 rfl rfl 13 (Nat.le_of_ble_eq_true rfl) zf_11 zw_455 rfl dX11_stops_5 ?_
  refine lv_iconst (v := 4) hx hb dX11_stops_8 (by decide) ?_
  refine lv_icmp_ne (tgt := 16) hx hb dX11_stops_9 (by decide) (fun h9 => ?_) (fun h9 => ?_)
  · have hg := zn hg h9
    refine lv_iconst (v := 0) hx hb dX11_stops_16 (by decide) ?_
    exact hret 0 v1.1 v1.2.1 v1.2.2.1 v1.2.2.2 hg (zb01 (Or.inl rfl)) _ _ _ _ hP hS dX11_stops_17
  · have hg := zp hg h9
    refine lv_iconst (v := 1) hx hb dX11_stops_12 (by decide) ?_
    refine lv_goto (tgt := 17) hx hb dX11_stops_13 (by decide) ?_
    exact hret 1 v1.1 v1.2.1 v1.2.2.1 v1.2.2.2 hg (zb01 (Or.inr rfl)) _ _ _ _ hP hS dX11_stops_17

/-! SpokenClockModel.takesPut(I)Z -/
abbrev ws_X11_takesPut (cI cJ cZ cA : ClassId) (q_M q_M_text q_M_read : Nat) (u_M_now : Value) (u_M_images : Value) (u_M_kept : Value) (u_M_sign : Value) (u_M_manyAbove : Value) (u_M_manyBelow : Value) (u_M_above : Value) (u_M_below : Value) (u_M_refused : Value) (u_M_acts : Value) (u_M_act : Value) (u_M_waits : Value) (u_M_wait : Value) (u_M_held : Value) (u_M_place : Value) (u_M_heap : Value) (u_M_clocks : Value) (u_M_counts : Value) (u_M_talking : Value) (u_M_most : Value) (u_M_hasA : Value) (u_M_hasB : Value) (u_M_talks : Value) (u_M_big : Value) (v_M_size : Int32) (v_M_at : Int32) (v_M_begin : Int32) (v_M_kind : Int32) (v_M_value : Int64) (a_M_text : Nat → Int32) (a_M_read : Nat → Int32) : va_W := [(q_M, .inr (11, [u_M_now, u_M_images, u_M_kept, .ref q_M_text, .int v_M_size, u_M_sign, u_M_manyAbove, u_M_manyBelow, u_M_above, u_M_below, u_M_refused, .int v_M_at, .int v_M_begin, .int v_M_kind, .long v_M_value, .ref q_M_read, u_M_acts, u_M_act, u_M_waits, u_M_wait, u_M_held, u_M_place, u_M_heap, u_M_clocks, u_M_counts, u_M_talking, u_M_most, u_M_hasA, u_M_hasB, u_M_talks, u_M_big])), (q_M_text, .inl (cI, 250, .inl a_M_text)), (q_M_read, .inl (cI, 155, .inl a_M_read))]
abbrev rm_X11_takesPut : Room := { frames := 4, cells := 0, slots := 0, locals := 88 }
def g_X11_takesPut_30 (v_M_size : Int32) (a_M_text : Nat → Int32) (x1 : Int32) (t1 : Int32) (t2 : Int32) (v_M_at : Int32) (v_M_begin : Int32) (v_M_kind : Int32) (v_M_value : Int64) (a_M_read : Nat → Int32) : Option (Int32 × Int32 × Int32 × Int32 × Int64 × (Nat → Int32)) :=
  (g_X11_takes v_M_size a_M_text t1 t2 v_M_at v_M_begin v_M_kind v_M_value).bind fun v1 =>
  if v1.1 = 0 then (
    some (0, v1.2.1, v1.2.2.1, v1.2.2.2.1, v1.2.2.2.2, a_M_read)
  ) else (
    if (0 + x1) < 0 ∨ 155 ≤ (0 + x1).toNatClampNeg then none else
    (g_X11_stops v_M_size a_M_text v1.2.1 v1.2.2.1 v1.2.2.2.1 v1.2.2.2.2).bind fun v4 =>
    if v4.1 = 0 ∨ v4.1 = 1 then
      some (v4.1, v4.2.1, v4.2.2.1, v4.2.2.2.1, v4.2.2.2.2, upd a_M_read ((0 + x1).toNatClampNeg) v1.2.2.2.2.toInt32)
    else none
  )
def g_X11_takesPut_10 (v_M_size : Int32) (a_M_text : Nat → Int32) (x1 : Int32) (t1 : Int32) (v_M_at : Int32) (v_M_begin : Int32) (v_M_kind : Int32) (v_M_value : Int64) (a_M_read : Nat → Int32) : Option (Int32 × Int32 × Int32 × Int32 × Int64 × (Nat → Int32)) :=
  if x1 = 0 then (
    g_X11_takesPut_30 v_M_size a_M_text x1 t1 4 v_M_at v_M_begin v_M_kind v_M_value a_M_read
  ) else (
    if x1 = 1 then (
      g_X11_takesPut_30 v_M_size a_M_text x1 t1 1 v_M_at v_M_begin v_M_kind v_M_value a_M_read
    ) else (
      g_X11_takesPut_30 v_M_size a_M_text x1 t1 240 v_M_at v_M_begin v_M_kind v_M_value a_M_read
    )
  )
def g_X11_takesPut (v_M_size : Int32) (a_M_text : Nat → Int32) (x1 : Int32) (v_M_at : Int32) (v_M_begin : Int32) (v_M_kind : Int32) (v_M_value : Int64) (a_M_read : Nat → Int32) : Option (Int32 × Int32 × Int32 × Int32 × Int64 × (Nat → Int32)) :=
  if x1 = 0 then (
    g_X11_takesPut_10 v_M_size a_M_text x1 1 v_M_at v_M_begin v_M_kind v_M_value a_M_read
  ) else (
    g_X11_takesPut_10 v_M_size a_M_text x1 0 v_M_at v_M_begin v_M_kind v_M_value a_M_read
  )
theorem hd_X11_takesPut : yX11_takesPut.cls = RX11 ∧ yX11_takesPut.cls ≠ "java/lang/invoke/MethodHandle" ∧ yX11_takesPut.cls ≠ "java/lang/invoke/VarHandle" ∧ (parseMethodDescriptor yX11_takesPut.desc).map (fun d => d.parameters.length) = some 1 := by decide +kernel
set_option maxHeartbeats 4000000 in
set_option maxRecDepth 100000 in
theorem c_X11_takesPut (l : Launch) (D : va_G) (cI cJ cZ cA : ClassId) (ga : Nat → Nat) (q_M q_M_text q_M_read : Nat) (u_M_now : Value) (u_M_images : Value) (u_M_kept : Value) (u_M_sign : Value) (u_M_manyAbove : Value) (u_M_manyBelow : Value) (u_M_above : Value) (u_M_below : Value) (u_M_refused : Value) (u_M_acts : Value) (u_M_act : Value) (u_M_waits : Value) (u_M_wait : Value) (u_M_held : Value) (u_M_place : Value) (u_M_heap : Value) (u_M_clocks : Value) (u_M_counts : Value) (u_M_talking : Value) (u_M_most : Value) (u_M_hasA : Value) (u_M_hasB : Value) (u_M_talks : Value) (u_M_big : Value) (v_M_size : Int32) (v_M_at : Int32) (v_M_begin : Int32) (v_M_kind : Int32) (v_M_value : Int64) (a_M_text : Nat → Int32) (a_M_read : Nat → Int32) (x1 : Int32) (o : Int32 × Int32 × Int32 × Int32 × Int64 × (Nat → Int32)) (hg : g_X11_takesPut v_M_size a_M_text x1 v_M_at v_M_begin v_M_kind v_M_value a_M_read = some o) : zM l yX11_takesPut (Cond.code yX11_takesPut cX11_takesPut 2 (some .boolean) :: wsL_law) rm_X11_takesPut D (zTy cI cJ cZ cA) ga [.ref q_M, .int x1] (ws_X11_takesPut cI cJ cZ cA q_M q_M_text q_M_read u_M_now u_M_images u_M_kept u_M_sign u_M_manyAbove u_M_manyBelow u_M_above u_M_below u_M_refused u_M_acts u_M_act u_M_waits u_M_wait u_M_held u_M_place u_M_heap u_M_clocks u_M_counts u_M_talking u_M_most u_M_hasA u_M_hasB u_M_talks u_M_big v_M_size v_M_at v_M_begin v_M_kind v_M_value a_M_text a_M_read) (ws_X11_takesPut cI cJ cZ cA q_M q_M_text q_M_read u_M_now u_M_images u_M_kept u_M_sign u_M_manyAbove u_M_manyBelow u_M_above u_M_below u_M_refused u_M_acts u_M_act u_M_waits u_M_wait u_M_held u_M_place u_M_heap u_M_clocks u_M_counts u_M_talking u_M_most u_M_hasA u_M_hasB u_M_talks u_M_big v_M_size o.2.1 o.2.2.1 o.2.2.2.1 o.2.2.2.2.1 a_M_text o.2.2.2.2.2) (some (.int o.1)) := by
  refine zenterN (own := RX11) (by decide) rfl rfl (Nat.le_of_ble_eq_true rfl) ?_
  intro p e s m args below meth c A ls Q S hA hK hG hl hP hD hS hret0
  have hx := S.1
  have hb := S.2.1
  have ht : ∀ w, w ∈ wsL_law → w.before args s = true := fun w h => S.2.2.2.2 w (List.mem_cons_of_mem _ h)
  have hret : ∀ (r9 : Int32) (v_M_at : Int32) (v_M_begin : Int32) (v_M_kind : Int32) (v_M_value : Int64) (a_M_read : Nat → Int32), (some (r9, v_M_at, v_M_begin, v_M_kind, v_M_value, a_M_read) : Option (Int32 × Int32 × Int32 × Int32 × Int64 × (Nat → Int32))) = some o → narrow .boolean (.int r9) = .int r9 → ∀ (H : Heap) (locs : List Loc) (pc : Nat) (ls : Array Slot), va_P D vwCl (ws_X11_takesPut cI cJ cZ cA q_M q_M_text q_M_read u_M_now u_M_images u_M_kept u_M_sign u_M_manyAbove u_M_manyBelow u_M_above u_M_below u_M_refused u_M_acts u_M_act u_M_waits u_M_wait u_M_held u_M_place u_M_heap u_M_clocks u_M_counts u_M_talking u_M_most u_M_hasA u_M_hasB u_M_talks u_M_big v_M_size v_M_at v_M_begin v_M_kind v_M_value a_M_text a_M_read) H → va_S A s.heap H locs → decode cX11_takesPut pc = .ok (.ireturn, 1) → W p l e rm_X11_takesPut s m args below meth c H locs 0 0 Q (F0 m pc ls [.int r9]) := by
    intro r9 v_M_at v_M_begin v_M_kind v_M_value a_M_read he; cases he; exact hret0
  have hl : lv_has ls 2 [(0, .ref q_M), (1, .int x1)] := hl
  have B30 : ∀ (t1 : Int32) (t2 : Int32) (v_M_at : Int32) (v_M_begin : Int32) (v_M_kind : Int32) (v_M_value : Int64) (a_M_read : Nat → Int32) (H : Heap) (locs : List Loc) (ls : Array Slot) (hl : lv_has ls 2 [(0, .ref q_M), (1, .int x1)]) (hP : va_P D vwCl (ws_X11_takesPut cI cJ cZ cA q_M q_M_text q_M_read u_M_now u_M_images u_M_kept u_M_sign u_M_manyAbove u_M_manyBelow u_M_above u_M_below u_M_refused u_M_acts u_M_act u_M_waits u_M_wait u_M_held u_M_place u_M_heap u_M_clocks u_M_counts u_M_talking u_M_most u_M_hasA u_M_hasB u_M_talks u_M_big v_M_size v_M_at v_M_begin v_M_kind v_M_value a_M_text a_M_read) H) (hD : va_D A (ws_X11_takesPut cI cJ cZ cA q_M q_M_text q_M_read u_M_now u_M_images u_M_kept u_M_sign u_M_manyAbove u_M_manyBelow u_M_above u_M_below u_M_refused u_M_acts u_M_act u_M_waits u_M_wait u_M_held u_M_place u_M_heap u_M_clocks u_M_counts u_M_talking u_M_most u_M_hasA u_M_hasB u_M_talks u_M_big v_M_size v_M_at v_M_begin v_M_kind v_M_value a_M_text a_M_read)) (hS : va_S A s.heap H locs), g_X11_takesPut_30 v_M_size a_M_text x1 t1 t2 v_M_at v_M_begin v_M_kind v_M_value a_M_read = some o → W p l e rm_X11_takesPut s m args below meth c H locs 0 0 Q (F0 m 30 ls [.int t2, .int t1, .ref q_M]) := by
    intro  t1 t2 v_M_at v_M_begin v_M_kind v_M_value a_M_read H locs ls hl hP hD hS hg
    obtain ⟨v1, hc2, hg⟩ := zbd hg
    refine zcallV (rest := []) S (c_X11_takes l D cI cJ cZ cA ga q_M q_M_text u_M_now u_M_images u_M_kept u_M_sign u_M_manyAbove u_M_manyBelow u_M_above u_M_below u_M_refused (.ref q_M_read) u_M_acts u_M_act u_M_waits u_M_wait u_M_held u_M_place u_M_heap u_M_clocks u_M_counts u_M_talking u_M_most u_M_hasA u_M_hasB u_M_talks u_M_big v_M_size v_M_at v_M_begin v_M_kind v_M_value a_M_text t1 t2 v1 hc2) (zgV zw_487 zw_488 zw_489 zw_5 zw_490) rfl hd_X11_takes ⟨rfl, rfl⟩ ⟨Nat.le_of_ble_eq_true rfl, Nat.le_of_ble_eq_true rfl⟩ 0 11 rfl rfl rfl hl.1 rfl (Nat.le_of_ble_eq_true rfl) dX11_takesPut_30 hP hD hS hA hK hG (isC := [0, 1]) rfl (by decide +kernel) rfl ⟨Nat.zero_le _, Nat.zero_le _⟩ (pl := [some 0, some 1, none]) (nw := 3) rfl (by decide +kernel) (w2 := (ws_X11_takesPut cI cJ cZ cA q_M q_M_text q_M_read u_M_now u_M_images u_M_kept u_M_sign u_M_manyAbove u_M_manyBelow u_M_above u_M_below u_M_refused u_M_acts u_M_act u_M_waits u_M_wait u_M_held u_M_place u_M_heap u_M_clocks u_M_counts u_M_talking u_M_most u_M_hasA u_M_hasB u_M_talks u_M_big v_M_size v1.2.1 v1.2.2.1 v1.2.2.2.1 v1.2.2.2.2 a_M_text a_M_read)) rfl (st1 := [.int v1.1]) rfl (fun H locs hP hD hS => ?_)
    refine lv_if_ne (tgt := 38) hx hb dX11_takesPut_33 (by decide) (fun h33 => ?_) (fun h33 => ?_)
    · have hg := zn hg h33
      refine lv_aload_n hx hb dX11_takesPut_38 rfl (lv_at hl 0 rfl) ?_
      refine zget (C := RX11) (T := TX11) (N := 31) S hK hP 0 rfl rfl 15 (Nat.le_of_ble_eq_true rfl) zf_11 zw_157 rfl dX11_takesPut_39 ?_
      refine lv_iconst (v := 0) hx hb dX11_takesPut_42 (by decide) ?_
      refine lv_iload_n hx hb dX11_takesPut_43 rfl (lv_at hl 1 rfl) ?_
      refine lv_iadd hx hb dX11_takesPut_44 ?_
      refine lv_aload_n hx hb dX11_takesPut_45 rfl (lv_at hl 0 rfl) ?_
      refine zget (C := RX11) (T := TX11) (N := 31) S hK hP 0 rfl rfl 14 (Nat.le_of_ble_eq_true rfl) zf_11 zw_456 rfl dX11_takesPut_46 ?_
      refine lv_l2i hx hb dX11_takesPut_49 rfl ?_
      obtain ⟨h3, hg⟩ := zck hg
      refine ziast hx hb hK hP hD hS 2 0 rfl rfl (j := ((0 + x1).toNatClampNeg)) h3 rfl dX11_takesPut_50 (w2 := (ws_X11_takesPut cI cJ cZ cA q_M q_M_text q_M_read u_M_now u_M_images u_M_kept u_M_sign u_M_manyAbove u_M_manyBelow u_M_above u_M_below u_M_refused u_M_acts u_M_act u_M_waits u_M_wait u_M_held u_M_place u_M_heap u_M_clocks u_M_counts u_M_talking u_M_most u_M_hasA u_M_hasB u_M_talks u_M_big v_M_size v1.2.1 v1.2.2.1 v1.2.2.2.1 v1.2.2.2.2 a_M_text (upd a_M_read ((0 + x1).toNatClampNeg) v1.2.2.2.2.toInt32))) rfl (fun H locs hP hD hS => ?_)
      refine lv_aload_n hx hb dX11_takesPut_51 rfl (lv_at hl 0 rfl) ?_
      obtain ⟨v4, hc5, hg⟩ := zbd hg
      refine zcallV (rest := []) S (c_X11_stops l D cI cJ cZ cA ga q_M q_M_text u_M_now u_M_images u_M_kept u_M_sign u_M_manyAbove u_M_manyBelow u_M_above u_M_below u_M_refused (.ref q_M_read) u_M_acts u_M_act u_M_waits u_M_wait u_M_held u_M_place u_M_heap u_M_clocks u_M_counts u_M_talking u_M_most u_M_hasA u_M_hasB u_M_talks u_M_big v_M_size v1.2.1 v1.2.2.1 v1.2.2.2.1 v1.2.2.2.2 a_M_text v4 hc5) (zgV zw_491 zw_492 zw_493 zw_5 zw_494) rfl hd_X11_stops ⟨rfl, rfl⟩ ⟨Nat.le_of_ble_eq_true rfl, Nat.le_of_ble_eq_true rfl⟩ 0 11 rfl rfl rfl hl.1 rfl (Nat.le_of_ble_eq_true rfl) dX11_takesPut_52 hP hD hS hA hK hG (isC := [0, 1]) rfl (by decide +kernel) rfl ⟨Nat.zero_le _, Nat.zero_le _⟩ (pl := [some 0, some 1, none]) (nw := 3) rfl (by decide +kernel) (w2 := (ws_X11_takesPut cI cJ cZ cA q_M q_M_text q_M_read u_M_now u_M_images u_M_kept u_M_sign u_M_manyAbove u_M_manyBelow u_M_above u_M_below u_M_refused u_M_acts u_M_act u_M_waits u_M_wait u_M_held u_M_place u_M_heap u_M_clocks u_M_counts u_M_talking u_M_most u_M_hasA u_M_hasB u_M_talks u_M_big v_M_size v4.2.1 v4.2.2.1 v4.2.2.2.1 v4.2.2.2.2 a_M_text (upd a_M_read ((0 + x1).toNatClampNeg) v1.2.2.2.2.toInt32))) rfl (st1 := [.int v4.1]) rfl (fun H locs hP hD hS => ?_)
      obtain ⟨hz01, hg⟩ := zck2 hg
      exact hret v4.1 v4.2.1 v4.2.2.1 v4.2.2.2.1 v4.2.2.2.2 (upd a_M_read ((0 + x1).toNatClampNeg) v1.2.2.2.2.toInt32) hg (zb01 hz01) _ _ _ _ hP hS dX11_takesPut_55
    · have hg := zp hg h33
      refine lv_iconst (v := 0) hx hb dX11_takesPut_36 (by decide) ?_
      exact hret 0 v1.2.1 v1.2.2.1 v1.2.2.2.1 v1.2.2.2.2 a_M_read hg (zb01 (Or.inl rfl)) _ _ _ _ hP hS dX11_takesPut_37
  have B10 : ∀ (t1 : Int32) (v_M_at : Int32) (v_M_begin : Int32) (v_M_kind : Int32) (v_M_value : Int64) (a_M_read : Nat → Int32) (H : Heap) (locs : List Loc) (ls : Array Slot) (hl : lv_has ls 2 [(0, .ref q_M), (1, .int x1)]) (hP : va_P D vwCl (ws_X11_takesPut cI cJ cZ cA q_M q_M_text q_M_read u_M_now u_M_images u_M_kept u_M_sign u_M_manyAbove u_M_manyBelow u_M_above u_M_below u_M_refused u_M_acts u_M_act u_M_waits u_M_wait u_M_held u_M_place u_M_heap u_M_clocks u_M_counts u_M_talking u_M_most u_M_hasA u_M_hasB u_M_talks u_M_big v_M_size v_M_at v_M_begin v_M_kind v_M_value a_M_text a_M_read) H) (hD : va_D A (ws_X11_takesPut cI cJ cZ cA q_M q_M_text q_M_read u_M_now u_M_images u_M_kept u_M_sign u_M_manyAbove u_M_manyBelow u_M_above u_M_below u_M_refused u_M_acts u_M_act u_M_waits u_M_wait u_M_held u_M_place u_M_heap u_M_clocks u_M_counts u_M_talking u_M_most u_M_hasA u_M_hasB u_M_talks u_M_big v_M_size v_M_at v_M_begin v_M_kind v_M_value a_M_text a_M_read)) (hS : va_S A s.heap H locs), g_X11_takesPut_10 v_M_size a_M_text x1 t1 v_M_at v_M_begin v_M_kind v_M_value a_M_read = some o → W p l e rm_X11_takesPut s m args below meth c H locs 0 0 Q (F0 m 10 ls [.int t1, .ref q_M]) := by
    intro  t1 v_M_at v_M_begin v_M_kind v_M_value a_M_read H locs ls hl hP hD hS hg
    refine lv_iload_n hx hb dX11_takesPut_10 rfl (lv_at hl 1 rfl) ?_
    refine lv_if_ne (tgt := 18) hx hb dX11_takesPut_11 (by decide) (fun h11 => ?_) (fun h11 => ?_)
    · have hg := zn hg h11
      refine lv_iload_n hx hb dX11_takesPut_18 rfl (lv_at hl 1 rfl) ?_
      refine lv_iconst (v := 1) hx hb dX11_takesPut_19 (by decide) ?_
      refine lv_icmp_ne (tgt := 27) hx hb dX11_takesPut_20 (by decide) (fun h20 => ?_) (fun h20 => ?_)
      · have hg := zn hg h20
        refine lv_sipush (v := 240) hx hb dX11_takesPut_27 (by decide) ?_
        exact B30 t1 240 v_M_at v_M_begin v_M_kind v_M_value a_M_read _ _ _ hl hP hD hS hg
      · have hg := zp hg h20
        refine lv_iconst (v := 1) hx hb dX11_takesPut_23 (by decide) ?_
        refine lv_goto (tgt := 30) hx hb dX11_takesPut_24 (by decide) ?_
        exact B30 t1 1 v_M_at v_M_begin v_M_kind v_M_value a_M_read _ _ _ hl hP hD hS hg
    · have hg := zp hg h11
      refine lv_iconst (v := 4) hx hb dX11_takesPut_14 (by decide) ?_
      refine lv_goto (tgt := 30) hx hb dX11_takesPut_15 (by decide) ?_
      exact B30 t1 4 v_M_at v_M_begin v_M_kind v_M_value a_M_read _ _ _ hl hP hD hS hg
  refine lv_aload_n hx hb dX11_takesPut_0 rfl (lv_at hl 0 rfl) ?_
  refine lv_iload_n hx hb dX11_takesPut_1 rfl (lv_at hl 1 rfl) ?_
  refine lv_if_ne (tgt := 9) hx hb dX11_takesPut_2 (by decide) (fun h2 => ?_) (fun h2 => ?_)
  · have hg := zn hg h2
    refine lv_iconst (v := 0) hx hb dX11_takesPut_9 (by decide) ?_
    exact B10 0 v_M_at v_M_begin v_M_kind v_M_value a_M_read _ _ _ hl hP hD hS hg
  · have hg := zp hg h2
    refine lv_iconst (v := 1) hx hb dX11_takesPut_5 (by decide) ?_
    refine lv_goto (tgt := 10) hx hb dX11_takesPut_6 (by decide) ?_
    exact B10 1 v_M_at v_M_begin v_M_kind v_M_value a_M_read _ _ _ hl hP hD hS hg

/-! SpokenClockModel.takesPerson()Z -/
abbrev ws_X11_takesPerson (cI cJ cZ cA : ClassId) (q_M q_M_read q_M_text : Nat) (u_M_now : Value) (u_M_images : Value) (u_M_kept : Value) (u_M_sign : Value) (u_M_manyAbove : Value) (u_M_manyBelow : Value) (u_M_above : Value) (u_M_below : Value) (u_M_refused : Value) (u_M_acts : Value) (u_M_act : Value) (u_M_waits : Value) (u_M_wait : Value) (u_M_held : Value) (u_M_place : Value) (u_M_heap : Value) (u_M_clocks : Value) (u_M_counts : Value) (u_M_talking : Value) (u_M_most : Value) (u_M_hasA : Value) (u_M_hasB : Value) (u_M_talks : Value) (u_M_big : Value) (v_M_size : Int32) (v_M_at : Int32) (v_M_begin : Int32) (v_M_kind : Int32) (v_M_value : Int64) (a_M_read : Nat → Int32) (a_M_text : Nat → Int32) : va_W := [(q_M, .inr (11, [u_M_now, u_M_images, u_M_kept, .ref q_M_text, .int v_M_size, u_M_sign, u_M_manyAbove, u_M_manyBelow, u_M_above, u_M_below, u_M_refused, .int v_M_at, .int v_M_begin, .int v_M_kind, .long v_M_value, .ref q_M_read, u_M_acts, u_M_act, u_M_waits, u_M_wait, u_M_held, u_M_place, u_M_heap, u_M_clocks, u_M_counts, u_M_talking, u_M_most, u_M_hasA, u_M_hasB, u_M_talks, u_M_big])), (q_M_read, .inl (cI, 155, .inl a_M_read)), (q_M_text, .inl (cI, 250, .inl a_M_text))]
abbrev rm_X11_takesPerson : Room := { frames := 4, cells := 0, slots := 0, locals := 88 }
def g_X11_takesPerson (v_M_size : Int32) (a_M_text : Nat → Int32) (v_M_at : Int32) (v_M_begin : Int32) (v_M_kind : Int32) (v_M_value : Int64) (a_M_read : Nat → Int32) : Option (Int32 × Int32 × Int32 × Int32 × Int64 × (Nat → Int32)) :=
  if (a_M_read 3) = 5 then (
    some (0, v_M_at, v_M_begin, v_M_kind, v_M_value, a_M_read)
  ) else (
    (g_X11_takes v_M_size a_M_text 0 5 v_M_at v_M_begin v_M_kind v_M_value).bind fun v1 =>
    if v1.1 = 0 then (
      some (0, v1.2.1, v1.2.2.1, v1.2.2.2.1, v1.2.2.2.2, a_M_read)
    ) else (
      if (13 + (a_M_read 3)) < 0 ∨ 155 ≤ (13 + (a_M_read 3)).toNatClampNeg then none else
      (g_X11_takes v_M_size a_M_text 0 1 v1.2.1 v1.2.2.1 v1.2.2.2.1 v1.2.2.2.2).bind fun v4 =>
      if v4.1 = 0 then (
        some (0, v4.2.1, v4.2.2.1, v4.2.2.2.1, v4.2.2.2.2, upd a_M_read ((13 + (a_M_read 3)).toNatClampNeg) v1.2.2.2.2.toInt32)
      ) else (
        if (18 + (a_M_read 3)) < 0 ∨ 155 ≤ (18 + (a_M_read 3)).toNatClampNeg then none else
        (g_X11_stops v_M_size a_M_text v4.2.1 v4.2.2.1 v4.2.2.2.1 v4.2.2.2.2).bind fun v7 =>
        if v7.1 = 0 ∨ v7.1 = 1 then
          some (v7.1, v7.2.1, v7.2.2.1, v7.2.2.2.1, v7.2.2.2.2, upd (upd (upd a_M_read ((13 + (a_M_read 3)).toNatClampNeg) v1.2.2.2.2.toInt32) ((18 + (a_M_read 3)).toNatClampNeg) v4.2.2.2.2.toInt32) 3 (((upd (upd a_M_read ((13 + (a_M_read 3)).toNatClampNeg) v1.2.2.2.2.toInt32) ((18 + (a_M_read 3)).toNatClampNeg) v4.2.2.2.2.toInt32) 3) + 1))
        else none
      )
    )
  )
theorem hd_X11_takesPerson : yX11_takesPerson.cls = RX11 ∧ yX11_takesPerson.cls ≠ "java/lang/invoke/MethodHandle" ∧ yX11_takesPerson.cls ≠ "java/lang/invoke/VarHandle" ∧ (parseMethodDescriptor yX11_takesPerson.desc).map (fun d => d.parameters.length) = some 0 := by decide +kernel
set_option maxHeartbeats 4000000 in
set_option maxRecDepth 100000 in
theorem c_X11_takesPerson (l : Launch) (D : va_G) (cI cJ cZ cA : ClassId) (ga : Nat → Nat) (q_M q_M_read q_M_text : Nat) (u_M_now : Value) (u_M_images : Value) (u_M_kept : Value) (u_M_sign : Value) (u_M_manyAbove : Value) (u_M_manyBelow : Value) (u_M_above : Value) (u_M_below : Value) (u_M_refused : Value) (u_M_acts : Value) (u_M_act : Value) (u_M_waits : Value) (u_M_wait : Value) (u_M_held : Value) (u_M_place : Value) (u_M_heap : Value) (u_M_clocks : Value) (u_M_counts : Value) (u_M_talking : Value) (u_M_most : Value) (u_M_hasA : Value) (u_M_hasB : Value) (u_M_talks : Value) (u_M_big : Value) (v_M_size : Int32) (v_M_at : Int32) (v_M_begin : Int32) (v_M_kind : Int32) (v_M_value : Int64) (a_M_read : Nat → Int32) (a_M_text : Nat → Int32) (o : Int32 × Int32 × Int32 × Int32 × Int64 × (Nat → Int32)) (hg : g_X11_takesPerson v_M_size a_M_text v_M_at v_M_begin v_M_kind v_M_value a_M_read = some o) : zM l yX11_takesPerson (Cond.code yX11_takesPerson cX11_takesPerson 2 (some .boolean) :: wsL_law) rm_X11_takesPerson D (zTy cI cJ cZ cA) ga [.ref q_M] (ws_X11_takesPerson cI cJ cZ cA q_M q_M_read q_M_text u_M_now u_M_images u_M_kept u_M_sign u_M_manyAbove u_M_manyBelow u_M_above u_M_below u_M_refused u_M_acts u_M_act u_M_waits u_M_wait u_M_held u_M_place u_M_heap u_M_clocks u_M_counts u_M_talking u_M_most u_M_hasA u_M_hasB u_M_talks u_M_big v_M_size v_M_at v_M_begin v_M_kind v_M_value a_M_read a_M_text) (ws_X11_takesPerson cI cJ cZ cA q_M q_M_read q_M_text u_M_now u_M_images u_M_kept u_M_sign u_M_manyAbove u_M_manyBelow u_M_above u_M_below u_M_refused u_M_acts u_M_act u_M_waits u_M_wait u_M_held u_M_place u_M_heap u_M_clocks u_M_counts u_M_talking u_M_most u_M_hasA u_M_hasB u_M_talks u_M_big v_M_size o.2.1 o.2.2.1 o.2.2.2.1 o.2.2.2.2.1 o.2.2.2.2.2 a_M_text) (some (.int o.1)) := by
  refine zenterN (own := RX11) (by decide) rfl rfl (Nat.le_of_ble_eq_true rfl) ?_
  intro p e s m args below meth c A ls Q S hA hK hG hl hP hD hS hret0
  have hx := S.1
  have hb := S.2.1
  have ht : ∀ w, w ∈ wsL_law → w.before args s = true := fun w h => S.2.2.2.2 w (List.mem_cons_of_mem _ h)
  have hret : ∀ (r9 : Int32) (v_M_at : Int32) (v_M_begin : Int32) (v_M_kind : Int32) (v_M_value : Int64) (a_M_read : Nat → Int32), (some (r9, v_M_at, v_M_begin, v_M_kind, v_M_value, a_M_read) : Option (Int32 × Int32 × Int32 × Int32 × Int64 × (Nat → Int32))) = some o → narrow .boolean (.int r9) = .int r9 → ∀ (H : Heap) (locs : List Loc) (pc : Nat) (ls : Array Slot), va_P D vwCl (ws_X11_takesPerson cI cJ cZ cA q_M q_M_read q_M_text u_M_now u_M_images u_M_kept u_M_sign u_M_manyAbove u_M_manyBelow u_M_above u_M_below u_M_refused u_M_acts u_M_act u_M_waits u_M_wait u_M_held u_M_place u_M_heap u_M_clocks u_M_counts u_M_talking u_M_most u_M_hasA u_M_hasB u_M_talks u_M_big v_M_size v_M_at v_M_begin v_M_kind v_M_value a_M_read a_M_text) H → va_S A s.heap H locs → decode cX11_takesPerson pc = .ok (.ireturn, 1) → W p l e rm_X11_takesPerson s m args below meth c H locs 0 0 Q (F0 m pc ls [.int r9]) := by
    intro r9 v_M_at v_M_begin v_M_kind v_M_value a_M_read he; cases he; exact hret0
  have hl : lv_has ls 2 [(0, .ref q_M)] := hl
  refine lv_aload_n hx hb dX11_takesPerson_0 rfl (lv_at hl 0 rfl) ?_
  refine zget (C := RX11) (T := TX11) (N := 31) S hK hP 0 rfl rfl 15 (Nat.le_of_ble_eq_true rfl) zf_11 zw_157 rfl dX11_takesPerson_1 ?_
  refine lv_iconst (v := 3) hx hb dX11_takesPerson_4 (by decide) ?_
  refine ziald hx hb hK hP 1 0 rfl rfl (j := 3) (zin (by decide)) (by decide) dX11_takesPerson_5 ?_
  refine lv_istore_n (lv' := [(1, .int (a_M_read 3)), (0, .ref q_M)]) hx hb dX11_takesPerson_6 rfl hl (by decide) rfl (fun ls hl => ?_)
  refine lv_iload_n hx hb dX11_takesPerson_7 rfl (lv_at hl 0 rfl) ?_
  refine lv_iconst (v := 5) hx hb dX11_takesPerson_8 (by decide) ?_
  refine lv_icmp_eq (tgt := 21) hx hb dX11_takesPerson_9 (by decide) (fun h9 => ?_) (fun h9 => ?_)
  · have hg := zp hg h9
    refine lv_iconst (v := 0) hx hb dX11_takesPerson_21 (by decide) ?_
    exact hret 0 v_M_at v_M_begin v_M_kind v_M_value a_M_read hg (zb01 (Or.inl rfl)) _ _ _ _ hP hS dX11_takesPerson_22
  · have hg := zn hg h9
    refine lv_aload_n hx hb dX11_takesPerson_12 rfl (lv_at hl 1 rfl) ?_
    refine lv_iconst (v := 0) hx hb dX11_takesPerson_13 (by decide) ?_
    refine lv_iconst (v := 5) hx hb dX11_takesPerson_14 (by decide) ?_
    obtain ⟨v1, hc2, hg⟩ := zbd hg
    refine zcallV (rest := []) S (c_X11_takes l D cI cJ cZ cA ga q_M q_M_text u_M_now u_M_images u_M_kept u_M_sign u_M_manyAbove u_M_manyBelow u_M_above u_M_below u_M_refused (.ref q_M_read) u_M_acts u_M_act u_M_waits u_M_wait u_M_held u_M_place u_M_heap u_M_clocks u_M_counts u_M_talking u_M_most u_M_hasA u_M_hasB u_M_talks u_M_big v_M_size v_M_at v_M_begin v_M_kind v_M_value a_M_text 0 5 v1 hc2) (zgV zw_487 zw_488 zw_489 zw_5 zw_490) rfl hd_X11_takes ⟨rfl, rfl⟩ ⟨Nat.le_of_ble_eq_true rfl, Nat.le_of_ble_eq_true rfl⟩ 0 11 rfl rfl rfl hl.1 rfl (Nat.le_of_ble_eq_true rfl) dX11_takesPerson_15 hP hD hS hA hK hG (isC := [0, 2]) rfl (by decide +kernel) rfl ⟨Nat.zero_le _, Nat.zero_le _⟩ (pl := [some 0, none, some 1]) (nw := 3) rfl (by decide +kernel) (w2 := (ws_X11_takesPerson cI cJ cZ cA q_M q_M_read q_M_text u_M_now u_M_images u_M_kept u_M_sign u_M_manyAbove u_M_manyBelow u_M_above u_M_below u_M_refused u_M_acts u_M_act u_M_waits u_M_wait u_M_held u_M_place u_M_heap u_M_clocks u_M_counts u_M_talking u_M_most u_M_hasA u_M_hasB u_M_talks u_M_big v_M_size v1.2.1 v1.2.2.1 v1.2.2.2.1 v1.2.2.2.2 a_M_read a_M_text)) rfl (st1 := [.int v1.1]) rfl (fun H locs hP hD hS => ?_)
    refine lv_if_ne (tgt := 23) hx hb dX11_takesPerson_18 (by decide) (fun h18 => ?_) (fun h18 => ?_)
    · have hg := zn hg h18
      refine lv_aload_n hx hb dX11_takesPerson_23 rfl (lv_at hl 1 rfl) ?_
      refine zget (C := RX11) (T := TX11) (N := 31) S hK hP 0 rfl rfl 15 (Nat.le_of_ble_eq_true rfl) zf_11 zw_157 rfl dX11_takesPerson_24 ?_
      refine lv_bipush (v := 13) hx hb dX11_takesPerson_27 (by decide) ?_
      refine lv_iload_n hx hb dX11_takesPerson_29 rfl (lv_at hl 0 rfl) ?_
      refine lv_iadd hx hb dX11_takesPerson_30 ?_
      refine lv_aload_n hx hb dX11_takesPerson_31 rfl (lv_at hl 1 rfl) ?_
      refine zget (C := RX11) (T := TX11) (N := 31) S hK hP 0 rfl rfl 14 (Nat.le_of_ble_eq_true rfl) zf_11 zw_456 rfl dX11_takesPerson_32 ?_
      refine lv_l2i hx hb dX11_takesPerson_35 rfl ?_
      obtain ⟨h3, hg⟩ := zck hg
      refine ziast hx hb hK hP hD hS 1 0 rfl rfl (j := ((13 + (a_M_read 3)).toNatClampNeg)) h3 rfl dX11_takesPerson_36 (w2 := (ws_X11_takesPerson cI cJ cZ cA q_M q_M_read q_M_text u_M_now u_M_images u_M_kept u_M_sign u_M_manyAbove u_M_manyBelow u_M_above u_M_below u_M_refused u_M_acts u_M_act u_M_waits u_M_wait u_M_held u_M_place u_M_heap u_M_clocks u_M_counts u_M_talking u_M_most u_M_hasA u_M_hasB u_M_talks u_M_big v_M_size v1.2.1 v1.2.2.1 v1.2.2.2.1 v1.2.2.2.2 (upd a_M_read ((13 + (a_M_read 3)).toNatClampNeg) v1.2.2.2.2.toInt32) a_M_text)) rfl (fun H locs hP hD hS => ?_)
      refine lv_aload_n hx hb dX11_takesPerson_37 rfl (lv_at hl 1 rfl) ?_
      refine lv_iconst (v := 0) hx hb dX11_takesPerson_38 (by decide) ?_
      refine lv_iconst (v := 1) hx hb dX11_takesPerson_39 (by decide) ?_
      obtain ⟨v4, hc5, hg⟩ := zbd hg
      refine zcallV (rest := []) S (c_X11_takes l D cI cJ cZ cA ga q_M q_M_text u_M_now u_M_images u_M_kept u_M_sign u_M_manyAbove u_M_manyBelow u_M_above u_M_below u_M_refused (.ref q_M_read) u_M_acts u_M_act u_M_waits u_M_wait u_M_held u_M_place u_M_heap u_M_clocks u_M_counts u_M_talking u_M_most u_M_hasA u_M_hasB u_M_talks u_M_big v_M_size v1.2.1 v1.2.2.1 v1.2.2.2.1 v1.2.2.2.2 a_M_text 0 1 v4 hc5) (zgV zw_487 zw_488 zw_489 zw_5 zw_490) rfl hd_X11_takes ⟨rfl, rfl⟩ ⟨Nat.le_of_ble_eq_true rfl, Nat.le_of_ble_eq_true rfl⟩ 0 11 rfl rfl rfl hl.1 rfl (Nat.le_of_ble_eq_true rfl) dX11_takesPerson_40 hP hD hS hA hK hG (isC := [0, 2]) rfl (by decide +kernel) rfl ⟨Nat.zero_le _, Nat.zero_le _⟩ (pl := [some 0, none, some 1]) (nw := 3) rfl (by decide +kernel) (w2 := (ws_X11_takesPerson cI cJ cZ cA q_M q_M_read q_M_text u_M_now u_M_images u_M_kept u_M_sign u_M_manyAbove u_M_manyBelow u_M_above u_M_below u_M_refused u_M_acts u_M_act u_M_waits u_M_wait u_M_held u_M_place u_M_heap u_M_clocks u_M_counts u_M_talking u_M_most u_M_hasA u_M_hasB u_M_talks u_M_big v_M_size v4.2.1 v4.2.2.1 v4.2.2.2.1 v4.2.2.2.2 (upd a_M_read ((13 + (a_M_read 3)).toNatClampNeg) v1.2.2.2.2.toInt32) a_M_text)) rfl (st1 := [.int v4.1]) rfl (fun H locs hP hD hS => ?_)
      refine lv_if_ne (tgt := 48) hx hb dX11_takesPerson_43 (by decide) (fun h43 => ?_) (fun h43 => ?_)
      · have hg := zn hg h43
        refine lv_aload_n hx hb dX11_takesPerson_48 rfl (lv_at hl 1 rfl) ?_
        refine zget (C := RX11) (T := TX11) (N := 31) S hK hP 0 rfl rfl 15 (Nat.le_of_ble_eq_true rfl) zf_11 zw_157 rfl dX11_takesPerson_49 ?_
        refine lv_bipush (v := 18) hx hb dX11_takesPerson_52 (by decide) ?_
        refine lv_iload_n hx hb dX11_takesPerson_54 rfl (lv_at hl 0 rfl) ?_
        refine lv_iadd hx hb dX11_takesPerson_55 ?_
        refine lv_aload_n hx hb dX11_takesPerson_56 rfl (lv_at hl 1 rfl) ?_
        refine zget (C := RX11) (T := TX11) (N := 31) S hK hP 0 rfl rfl 14 (Nat.le_of_ble_eq_true rfl) zf_11 zw_456 rfl dX11_takesPerson_57 ?_
        refine lv_l2i hx hb dX11_takesPerson_60 rfl ?_
        obtain ⟨h6, hg⟩ := zck hg
        refine ziast hx hb hK hP hD hS 1 0 rfl rfl (j := ((18 + (a_M_read 3)).toNatClampNeg)) h6 rfl dX11_takesPerson_61 (w2 := (ws_X11_takesPerson cI cJ cZ cA q_M q_M_read q_M_text u_M_now u_M_images u_M_kept u_M_sign u_M_manyAbove u_M_manyBelow u_M_above u_M_below u_M_refused u_M_acts u_M_act u_M_waits u_M_wait u_M_held u_M_place u_M_heap u_M_clocks u_M_counts u_M_talking u_M_most u_M_hasA u_M_hasB u_M_talks u_M_big v_M_size v4.2.1 v4.2.2.1 v4.2.2.2.1 v4.2.2.2.2 (upd (upd a_M_read ((13 + (a_M_read 3)).toNatClampNeg) v1.2.2.2.2.toInt32) ((18 + (a_M_read 3)).toNatClampNeg) v4.2.2.2.2.toInt32) a_M_text)) rfl (fun H locs hP hD hS => ?_)
        refine lv_aload_n hx hb dX11_takesPerson_62 rfl (lv_at hl 1 rfl) ?_
        refine zget (C := RX11) (T := TX11) (N := 31) S hK hP 0 rfl rfl 15 (Nat.le_of_ble_eq_true rfl) zf_11 zw_157 rfl dX11_takesPerson_63 ?_
        refine lv_iconst (v := 3) hx hb dX11_takesPerson_66 (by decide) ?_
        refine lv_dup2_11 hx hb dX11_takesPerson_67 rfl rfl ?_
        refine ziald hx hb hK hP 1 0 rfl rfl (j := 3) (zin (by decide)) (by decide) dX11_takesPerson_68 ?_
        refine lv_iconst (v := 1) hx hb dX11_takesPerson_69 (by decide) ?_
        refine lv_iadd hx hb dX11_takesPerson_70 ?_
        refine ziast hx hb hK hP hD hS 1 0 rfl rfl (j := 3) (zin (by decide)) (by decide) dX11_takesPerson_71 (w2 := (ws_X11_takesPerson cI cJ cZ cA q_M q_M_read q_M_text u_M_now u_M_images u_M_kept u_M_sign u_M_manyAbove u_M_manyBelow u_M_above u_M_below u_M_refused u_M_acts u_M_act u_M_waits u_M_wait u_M_held u_M_place u_M_heap u_M_clocks u_M_counts u_M_talking u_M_most u_M_hasA u_M_hasB u_M_talks u_M_big v_M_size v4.2.1 v4.2.2.1 v4.2.2.2.1 v4.2.2.2.2 (upd (upd (upd a_M_read ((13 + (a_M_read 3)).toNatClampNeg) v1.2.2.2.2.toInt32) ((18 + (a_M_read 3)).toNatClampNeg) v4.2.2.2.2.toInt32) 3 (((upd (upd a_M_read ((13 + (a_M_read 3)).toNatClampNeg) v1.2.2.2.2.toInt32) ((18 + (a_M_read 3)).toNatClampNeg) v4.2.2.2.2.toInt32) 3) + 1)) a_M_text)) rfl (fun H locs hP hD hS => ?_)
        refine lv_aload_n hx hb dX11_takesPerson_72 rfl (lv_at hl 1 rfl) ?_
        obtain ⟨v7, hc8, hg⟩ := zbd hg
        refine zcallV (rest := []) S (c_X11_stops l D cI cJ cZ cA ga q_M q_M_text u_M_now u_M_images u_M_kept u_M_sign u_M_manyAbove u_M_manyBelow u_M_above u_M_below u_M_refused (.ref q_M_read) u_M_acts u_M_act u_M_waits u_M_wait u_M_held u_M_place u_M_heap u_M_clocks u_M_counts u_M_talking u_M_most u_M_hasA u_M_hasB u_M_talks u_M_big v_M_size v4.2.1 v4.2.2.1 v4.2.2.2.1 v4.2.2.2.2 a_M_text v7 hc8) (zgV zw_491 zw_492 zw_493 zw_5 zw_494) rfl hd_X11_stops ⟨rfl, rfl⟩ ⟨Nat.le_of_ble_eq_true rfl, Nat.le_of_ble_eq_true rfl⟩ 0 11 rfl rfl rfl hl.1 rfl (Nat.le_of_ble_eq_true rfl) dX11_takesPerson_73 hP hD hS hA hK hG (isC := [0, 2]) rfl (by decide +kernel) rfl ⟨Nat.zero_le _, Nat.zero_le _⟩ (pl := [some 0, none, some 1]) (nw := 3) rfl (by decide +kernel) (w2 := (ws_X11_takesPerson cI cJ cZ cA q_M q_M_read q_M_text u_M_now u_M_images u_M_kept u_M_sign u_M_manyAbove u_M_manyBelow u_M_above u_M_below u_M_refused u_M_acts u_M_act u_M_waits u_M_wait u_M_held u_M_place u_M_heap u_M_clocks u_M_counts u_M_talking u_M_most u_M_hasA u_M_hasB u_M_talks u_M_big v_M_size v7.2.1 v7.2.2.1 v7.2.2.2.1 v7.2.2.2.2 (upd (upd (upd a_M_read ((13 + (a_M_read 3)).toNatClampNeg) v1.2.2.2.2.toInt32) ((18 + (a_M_read 3)).toNatClampNeg) v4.2.2.2.2.toInt32) 3 (((upd (upd a_M_read ((13 + (a_M_read 3)).toNatClampNeg) v1.2.2.2.2.toInt32) ((18 + (a_M_read 3)).toNatClampNeg) v4.2.2.2.2.toInt32) 3) + 1)) a_M_text)) rfl (st1 := [.int v7.1]) rfl (fun H locs hP hD hS => ?_)
        obtain ⟨hz01, hg⟩ := zck2 hg
        exact hret v7.1 v7.2.1 v7.2.2.1 v7.2.2.2.1 v7.2.2.2.2 (upd (upd (upd a_M_read ((13 + (a_M_read 3)).toNatClampNeg) v1.2.2.2.2.toInt32) ((18 + (a_M_read 3)).toNatClampNeg) v4.2.2.2.2.toInt32) 3 (((upd (upd a_M_read ((13 + (a_M_read 3)).toNatClampNeg) v1.2.2.2.2.toInt32) ((18 + (a_M_read 3)).toNatClampNeg) v4.2.2.2.2.toInt32) 3) + 1)) hg (zb01 hz01) _ _ _ _ hP hS dX11_takesPerson_76
      · have hg := zp hg h43
        refine lv_iconst (v := 0) hx hb dX11_takesPerson_46 (by decide) ?_
        exact hret 0 v4.2.1 v4.2.2.1 v4.2.2.2.1 v4.2.2.2.2 (upd a_M_read ((13 + (a_M_read 3)).toNatClampNeg) v1.2.2.2.2.toInt32) hg (zb01 (Or.inl rfl)) _ _ _ _ hP hS dX11_takesPerson_47
    · have hg := zp hg h18
      refine lv_iconst (v := 0) hx hb dX11_takesPerson_21 (by decide) ?_
      exact hret 0 v1.2.1 v1.2.2.1 v1.2.2.2.1 v1.2.2.2.2 a_M_read hg (zb01 (Or.inl rfl)) _ _ _ _ hP hS dX11_takesPerson_22

