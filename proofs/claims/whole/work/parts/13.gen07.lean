/-! SpokenClock$Quarrel.play([III)V -/
abbrev ws_X5_play (cI cJ cZ cA : ClassId) (q_X_quarrel q_p1 q_X_quarrel_hers q_X_quarrel_his q_X_quarrel_talks : Nat) (a_p1 : Nat → Int32) (v_X_quarrel_firstTalk : Int32) (v_X_quarrel_gone : Int32) (a_X_quarrel_hers : Nat → Int32) (a_X_quarrel_his : Nat → Int32) (a_X_quarrel_talks : Nat → Int32) : va_W := [(q_p1, .inl (cI, 5, .inl a_p1)), (q_X_quarrel, .inr (5, [.ref q_X_quarrel_hers, .ref q_X_quarrel_his, .ref q_X_quarrel_talks, .int v_X_quarrel_firstTalk, .int v_X_quarrel_gone])), (q_X_quarrel_hers, .inl (cI, 21, .inl a_X_quarrel_hers)), (q_X_quarrel_his, .inl (cI, 21, .inl a_X_quarrel_his)), (q_X_quarrel_talks, .inl (cI, 40, .inl a_X_quarrel_talks))]
abbrev rm_X5_play : Room := { frames := 1, cells := 0, slots := 0, locals := 30 }
def g_X5_play_164 (a_p1 : Nat → Int32) (x2 : Int32) (x3 : Int32) (k102 : Int32 → Int32 → Int32 → (Nat → Int32) → (Nat → Int32) → (Nat → Int32) → Option (Int32 × Int32 × (Nat → Int32) × (Nat → Int32) × (Nat → Int32))) (x4 : Int32) (v_X_quarrel_firstTalk : Int32) (v_X_quarrel_gone : Int32) (a_X_quarrel_hers : Nat → Int32) (a_X_quarrel_his : Nat → Int32) (a_X_quarrel_talks : Nat → Int32) : Option (Int32 × Int32 × (Nat → Int32) × (Nat → Int32) × (Nat → Int32)) :=
  k102 (x4 + 1) v_X_quarrel_firstTalk v_X_quarrel_gone a_X_quarrel_hers a_X_quarrel_his a_X_quarrel_talks
def g_X5_play_151 (a_p1 : Nat → Int32) (x2 : Int32) (x3 : Int32) (k102 : Int32 → Int32 → Int32 → (Nat → Int32) → (Nat → Int32) → (Nat → Int32) → Option (Int32 × Int32 × (Nat → Int32) × (Nat → Int32) × (Nat → Int32))) (x4 : Int32) (t1 : Int32) (v_X_quarrel_firstTalk : Int32) (v_X_quarrel_gone : Int32) (a_X_quarrel_hers : Nat → Int32) (a_X_quarrel_his : Nat → Int32) (a_X_quarrel_talks : Nat → Int32) : Option (Int32 × Int32 × (Nat → Int32) × (Nat → Int32) × (Nat → Int32)) :=
  g_X5_play_164 a_p1 x2 x3 k102 x4 t1 (v_X_quarrel_gone + 1) a_X_quarrel_hers a_X_quarrel_his a_X_quarrel_talks
def g_X5_play_102b (a_p1 : Nat → Int32) (x2 : Int32) (x3 : Int32) (k102 : Int32 → Int32 → Int32 → (Nat → Int32) → (Nat → Int32) → (Nat → Int32) → Option (Int32 × Int32 × (Nat → Int32) × (Nat → Int32) × (Nat → Int32))) (x4 : Int32) (v_X_quarrel_firstTalk : Int32) (v_X_quarrel_gone : Int32) (a_X_quarrel_hers : Nat → Int32) (a_X_quarrel_his : Nat → Int32) (a_X_quarrel_talks : Nat → Int32) : Option (Int32 × Int32 × (Nat → Int32) × (Nat → Int32) × (Nat → Int32)) :=
  if x2 ≤ x4 then (
    some (v_X_quarrel_firstTalk, v_X_quarrel_gone, a_X_quarrel_hers, a_X_quarrel_his, a_X_quarrel_talks)
  ) else (
    if x3 ≤ v_X_quarrel_gone then (
      some (v_X_quarrel_firstTalk, v_X_quarrel_gone, a_X_quarrel_hers, a_X_quarrel_his, a_X_quarrel_talks)
    ) else (
      if x4 < 0 ∨ 40 ≤ x4.toNatClampNeg then none else
      if (((a_X_quarrel_talks (x4.toNatClampNeg)) >>> (v_X_quarrel_gone &&& 31)) &&& 1) = 0 then (
        g_X5_play_164 a_p1 x2 x3 k102 x4 v_X_quarrel_firstTalk v_X_quarrel_gone a_X_quarrel_hers a_X_quarrel_his a_X_quarrel_talks
      ) else (
        if v_X_quarrel_firstTalk = (-1) then (
          g_X5_play_151 a_p1 x2 x3 k102 x4 x4 v_X_quarrel_firstTalk v_X_quarrel_gone a_X_quarrel_hers a_X_quarrel_his a_X_quarrel_talks
        ) else (
          g_X5_play_151 a_p1 x2 x3 k102 x4 v_X_quarrel_firstTalk v_X_quarrel_firstTalk v_X_quarrel_gone a_X_quarrel_hers a_X_quarrel_his a_X_quarrel_talks
        )
      )
    )
  )
def g_X5_play_102 (a_p1 : Nat → Int32) (x2 : Int32) (x3 : Int32) : Nat → Int32 → Int32 → Int32 → (Nat → Int32) → (Nat → Int32) → (Nat → Int32) → Option (Int32 × Int32 × (Nat → Int32) × (Nat → Int32) × (Nat → Int32))
  | 0, _, _, _, _, _, _ => none
  | n + 1, x4, v_X_quarrel_firstTalk, v_X_quarrel_gone, a_X_quarrel_hers, a_X_quarrel_his, a_X_quarrel_talks => g_X5_play_102b a_p1 x2 x3 (g_X5_play_102 a_p1 x2 x3 n) x4 v_X_quarrel_firstTalk v_X_quarrel_gone a_X_quarrel_hers a_X_quarrel_his a_X_quarrel_talks
def g_X5_play_70b (a_p1 : Nat → Int32) (x2 : Int32) (x3 : Int32) (k70 : Int32 → Int32 → Int32 → (Nat → Int32) → (Nat → Int32) → (Nat → Int32) → Option (Int32 × Int32 × (Nat → Int32) × (Nat → Int32) × (Nat → Int32))) (x4 : Int32) (v_X_quarrel_firstTalk : Int32) (v_X_quarrel_gone : Int32) (a_X_quarrel_hers : Nat → Int32) (a_X_quarrel_his : Nat → Int32) (a_X_quarrel_talks : Nat → Int32) : Option (Int32 × Int32 × (Nat → Int32) × (Nat → Int32) × (Nat → Int32)) :=
  if x4 < 0 then (
    g_X5_play_102 a_p1 x2 x3 zF 0 (-1) 0 a_X_quarrel_hers a_X_quarrel_his a_X_quarrel_talks
  ) else (
    (g_X5_weigh a_p1 x4 x3 a_X_quarrel_talks a_X_quarrel_hers a_X_quarrel_his).bind fun v12 =>
    k70 (x4 + (-1)) v_X_quarrel_firstTalk v_X_quarrel_gone v12.2.1 v12.2.2 v12.1
  )
def g_X5_play_70 (a_p1 : Nat → Int32) (x2 : Int32) (x3 : Int32) : Nat → Int32 → Int32 → Int32 → (Nat → Int32) → (Nat → Int32) → (Nat → Int32) → Option (Int32 × Int32 × (Nat → Int32) × (Nat → Int32) × (Nat → Int32))
  | 0, _, _, _, _, _, _ => none
  | n + 1, x4, v_X_quarrel_firstTalk, v_X_quarrel_gone, a_X_quarrel_hers, a_X_quarrel_his, a_X_quarrel_talks => g_X5_play_70b a_p1 x2 x3 (g_X5_play_70 a_p1 x2 x3 n) x4 v_X_quarrel_firstTalk v_X_quarrel_gone a_X_quarrel_hers a_X_quarrel_his a_X_quarrel_talks
def g_X5_play (a_p1 : Nat → Int32) (x2 : Int32) (x3 : Int32) (v_X_quarrel_firstTalk : Int32) (v_X_quarrel_gone : Int32) (a_X_quarrel_hers : Nat → Int32) (a_X_quarrel_his : Nat → Int32) (a_X_quarrel_talks : Nat → Int32) : Option (Int32 × Int32 × (Nat → Int32) × (Nat → Int32) × (Nat → Int32)) :=
  if (5 : Int32) ≤ 4 then (
    some (v_X_quarrel_firstTalk, v_X_quarrel_gone, a_X_quarrel_hers, a_X_quarrel_his, a_X_quarrel_talks)
  ) else (
    (g_X10_isIn x2 0 40).bind fun v1 =>
    if v1 = 0 then (
      some (v_X_quarrel_firstTalk, v_X_quarrel_gone, a_X_quarrel_hers, a_X_quarrel_his, a_X_quarrel_talks)
    ) else (
      (g_X10_isIn x3 1 20).bind fun v3 =>
      if v3 = 0 then (
        some (v_X_quarrel_firstTalk, v_X_quarrel_gone, a_X_quarrel_hers, a_X_quarrel_his, a_X_quarrel_talks)
      ) else (
        (g_J7_fill_53178 21 0 a_X_quarrel_hers).bind fun v5 =>
        (g_J7_fill_53178 21 0 a_X_quarrel_his).bind fun v7 =>
        if x3 < 0 ∨ 21 ≤ x3.toNatClampNeg then none else
        if x3 < 0 ∨ 21 ≤ x3.toNatClampNeg then none else
        g_X5_play_70 a_p1 x2 x3 zF (x2 - 1) v_X_quarrel_firstTalk v_X_quarrel_gone (upd v5 (x3.toNatClampNeg) (a_p1 2)) (upd v7 (x3.toNatClampNeg) (a_p1 3)) a_X_quarrel_talks
      )
    )
  )
theorem hd_X5_play : yX5_play.cls = RX5 ∧ yX5_play.cls ≠ "java/lang/invoke/MethodHandle" ∧ yX5_play.cls ≠ "java/lang/invoke/VarHandle" ∧ (parseMethodDescriptor yX5_play.desc).map (fun d => d.parameters.length) = some 3 := by decide +kernel
set_option maxHeartbeats 4000000 in
set_option maxRecDepth 100000 in
theorem c_X5_play (l : Launch) (D : va_G) (cI cJ cZ cA : ClassId) (ga : Nat → Nat) (q_X_quarrel q_p1 q_X_quarrel_hers q_X_quarrel_his q_X_quarrel_talks : Nat) (a_p1 : Nat → Int32) (v_X_quarrel_firstTalk : Int32) (v_X_quarrel_gone : Int32) (a_X_quarrel_hers : Nat → Int32) (a_X_quarrel_his : Nat → Int32) (a_X_quarrel_talks : Nat → Int32) (x2 : Int32) (x3 : Int32) (o : Int32 × Int32 × (Nat → Int32) × (Nat → Int32) × (Nat → Int32)) (hg : g_X5_play a_p1 x2 x3 v_X_quarrel_firstTalk v_X_quarrel_gone a_X_quarrel_hers a_X_quarrel_his a_X_quarrel_talks = some o) : zM l yX5_play (Cond.code yX5_play cX5_play 5 none :: wsL_law) rm_X5_play D (zTy cI cJ cZ cA) ga [.ref q_X_quarrel, .ref q_p1, .int x2, .int x3] (ws_X5_play cI cJ cZ cA q_X_quarrel q_p1 q_X_quarrel_hers q_X_quarrel_his q_X_quarrel_talks a_p1 v_X_quarrel_firstTalk v_X_quarrel_gone a_X_quarrel_hers a_X_quarrel_his a_X_quarrel_talks) (ws_X5_play cI cJ cZ cA q_X_quarrel q_p1 q_X_quarrel_hers q_X_quarrel_his q_X_quarrel_talks a_p1 o.1 o.2.1 o.2.2.1 o.2.2.2.1 o.2.2.2.2) none := by
  refine zenterV (own := RX5) (by decide) rfl rfl (Nat.le_of_ble_eq_true rfl) ?_
  intro p e s m args below meth c A ls Q S hA hK hG hl hP hD hS hret0
  have hx := S.1
  have hb := S.2.1
  have ht : ∀ w, w ∈ wsL_law → w.before args s = true := fun w h => S.2.2.2.2 w (List.mem_cons_of_mem _ h)
  have hret : ∀ (v_X_quarrel_firstTalk : Int32) (v_X_quarrel_gone : Int32) (a_X_quarrel_hers : Nat → Int32) (a_X_quarrel_his : Nat → Int32) (a_X_quarrel_talks : Nat → Int32), (some (v_X_quarrel_firstTalk, v_X_quarrel_gone, a_X_quarrel_hers, a_X_quarrel_his, a_X_quarrel_talks) : Option (Int32 × Int32 × (Nat → Int32) × (Nat → Int32) × (Nat → Int32))) = some o → ∀ (H : Heap) (locs : List Loc) (pc : Nat) (ls : Array Slot), va_P D vwCl (ws_X5_play cI cJ cZ cA q_X_quarrel q_p1 q_X_quarrel_hers q_X_quarrel_his q_X_quarrel_talks a_p1 v_X_quarrel_firstTalk v_X_quarrel_gone a_X_quarrel_hers a_X_quarrel_his a_X_quarrel_talks) H → va_S A s.heap H locs → decode cX5_play pc = .ok (.return_, 1) → W p l e rm_X5_play s m args below meth c H locs 0 0 Q (F0 m pc ls []) := by
    intro v_X_quarrel_firstTalk v_X_quarrel_gone a_X_quarrel_hers a_X_quarrel_his a_X_quarrel_talks he; cases he; exact hret0
  have hl : lv_has ls 5 [(0, .ref q_X_quarrel), (1, .ref q_p1), (2, .int x2), (3, .int x3)] := hl
  have B164 : ∀ (k102 : Int32 → Int32 → Int32 → (Nat → Int32) → (Nat → Int32) → (Nat → Int32) → Option (Int32 × Int32 × (Nat → Int32) × (Nat → Int32) × (Nat → Int32))) (hk102 : ∀ (x4 : Int32) (v_X_quarrel_firstTalk : Int32) (v_X_quarrel_gone : Int32) (a_X_quarrel_hers : Nat → Int32) (a_X_quarrel_his : Nat → Int32) (a_X_quarrel_talks : Nat → Int32) (H : Heap) (locs : List Loc) (ls : Array Slot) (hl : lv_has ls 5 [(0, .ref q_X_quarrel), (2, .int x2), (3, .int x3), (4, .int x4)]) (hP : va_P D vwCl (ws_X5_play cI cJ cZ cA q_X_quarrel q_p1 q_X_quarrel_hers q_X_quarrel_his q_X_quarrel_talks a_p1 v_X_quarrel_firstTalk v_X_quarrel_gone a_X_quarrel_hers a_X_quarrel_his a_X_quarrel_talks) H) (hD : va_D A (ws_X5_play cI cJ cZ cA q_X_quarrel q_p1 q_X_quarrel_hers q_X_quarrel_his q_X_quarrel_talks a_p1 v_X_quarrel_firstTalk v_X_quarrel_gone a_X_quarrel_hers a_X_quarrel_his a_X_quarrel_talks)) (hS : va_S A s.heap H locs), k102 x4 v_X_quarrel_firstTalk v_X_quarrel_gone a_X_quarrel_hers a_X_quarrel_his a_X_quarrel_talks = some o → W p l e rm_X5_play s m args below meth c H locs 0 0 Q (F0 m 102 ls [])) (x4 : Int32) (v_X_quarrel_firstTalk : Int32) (v_X_quarrel_gone : Int32) (a_X_quarrel_hers : Nat → Int32) (a_X_quarrel_his : Nat → Int32) (a_X_quarrel_talks : Nat → Int32) (H : Heap) (locs : List Loc) (ls : Array Slot) (hl : lv_has ls 5 [(0, .ref q_X_quarrel), (2, .int x2), (3, .int x3), (4, .int x4)]) (hP : va_P D vwCl (ws_X5_play cI cJ cZ cA q_X_quarrel q_p1 q_X_quarrel_hers q_X_quarrel_his q_X_quarrel_talks a_p1 v_X_quarrel_firstTalk v_X_quarrel_gone a_X_quarrel_hers a_X_quarrel_his a_X_quarrel_talks) H) (hD : va_D A (ws_X5_play cI cJ cZ cA q_X_quarrel q_p1 q_X_quarrel_hers q_X_quarrel_his q_X_quarrel_talks a_p1 v_X_quarrel_firstTalk v_X_quarrel_gone a_X_quarrel_hers a_X_quarrel_his a_X_quarrel_talks)) (hS : va_S A s.heap H locs), g_X5_play_164 a_p1 x2 x3 k102 x4 v_X_quarrel_firstTalk v_X_quarrel_gone a_X_quarrel_hers a_X_quarrel_his a_X_quarrel_talks = some o → W p l e rm_X5_play s m args below meth c H locs 0 0 Q (F0 m 164 ls []) := by
    intro k102 hk102 x4 v_X_quarrel_firstTalk v_X_quarrel_gone a_X_quarrel_hers a_X_quarrel_his a_X_quarrel_talks H locs ls hl hP hD hS hg
    refine lv_iinc (k := 3) (v := x4 + 1) (lv' := [(4, .int (x4 + 1)), (0, .ref q_X_quarrel), (2, .int x2), (3, .int x3)]) hx hb dX5_play_164 hl rfl (zinc (by decide)) (by decide) rfl (fun ls hl => ?_)
    refine lv_goto (tgt := 102) hx hb dX5_play_167 (by decide) ?_
    exact hk102 (x4 + 1) v_X_quarrel_firstTalk v_X_quarrel_gone a_X_quarrel_hers a_X_quarrel_his a_X_quarrel_talks _ _ _ (lv_sub hl [1, 2, 3, 0] rfl) hP hD hS hg
  have B151 : ∀ (k102 : Int32 → Int32 → Int32 → (Nat → Int32) → (Nat → Int32) → (Nat → Int32) → Option (Int32 × Int32 × (Nat → Int32) × (Nat → Int32) × (Nat → Int32))) (hk102 : ∀ (x4 : Int32) (v_X_quarrel_firstTalk : Int32) (v_X_quarrel_gone : Int32) (a_X_quarrel_hers : Nat → Int32) (a_X_quarrel_his : Nat → Int32) (a_X_quarrel_talks : Nat → Int32) (H : Heap) (locs : List Loc) (ls : Array Slot) (hl : lv_has ls 5 [(0, .ref q_X_quarrel), (2, .int x2), (3, .int x3), (4, .int x4)]) (hP : va_P D vwCl (ws_X5_play cI cJ cZ cA q_X_quarrel q_p1 q_X_quarrel_hers q_X_quarrel_his q_X_quarrel_talks a_p1 v_X_quarrel_firstTalk v_X_quarrel_gone a_X_quarrel_hers a_X_quarrel_his a_X_quarrel_talks) H) (hD : va_D A (ws_X5_play cI cJ cZ cA q_X_quarrel q_p1 q_X_quarrel_hers q_X_quarrel_his q_X_quarrel_talks a_p1 v_X_quarrel_firstTalk v_X_quarrel_gone a_X_quarrel_hers a_X_quarrel_his a_X_quarrel_talks)) (hS : va_S A s.heap H locs), k102 x4 v_X_quarrel_firstTalk v_X_quarrel_gone a_X_quarrel_hers a_X_quarrel_his a_X_quarrel_talks = some o → W p l e rm_X5_play s m args below meth c H locs 0 0 Q (F0 m 102 ls [])) (x4 : Int32) (t1 : Int32) (v_X_quarrel_firstTalk : Int32) (v_X_quarrel_gone : Int32) (a_X_quarrel_hers : Nat → Int32) (a_X_quarrel_his : Nat → Int32) (a_X_quarrel_talks : Nat → Int32) (H : Heap) (locs : List Loc) (ls : Array Slot) (hl : lv_has ls 5 [(0, .ref q_X_quarrel), (2, .int x2), (3, .int x3), (4, .int x4)]) (hP : va_P D vwCl (ws_X5_play cI cJ cZ cA q_X_quarrel q_p1 q_X_quarrel_hers q_X_quarrel_his q_X_quarrel_talks a_p1 v_X_quarrel_firstTalk v_X_quarrel_gone a_X_quarrel_hers a_X_quarrel_his a_X_quarrel_talks) H) (hD : va_D A (ws_X5_play cI cJ cZ cA q_X_quarrel q_p1 q_X_quarrel_hers q_X_quarrel_his q_X_quarrel_talks a_p1 v_X_quarrel_firstTalk v_X_quarrel_gone a_X_quarrel_hers a_X_quarrel_his a_X_quarrel_talks)) (hS : va_S A s.heap H locs), g_X5_play_151 a_p1 x2 x3 k102 x4 t1 v_X_quarrel_firstTalk v_X_quarrel_gone a_X_quarrel_hers a_X_quarrel_his a_X_quarrel_talks = some o → W p l e rm_X5_play s m args below meth c H locs 0 0 Q (F0 m 151 ls [.int t1, .ref q_X_quarrel]) := by
    intro k102 hk102 x4 t1 v_X_quarrel_firstTalk v_X_quarrel_gone a_X_quarrel_hers a_X_quarrel_his a_X_quarrel_talks H locs ls hl hP hD hS hg
    refine zputf (C := RX5) (T := TX5) (N := 5) (ty := .int) S hK hP hD hS 1 rfl rfl 3 (Nat.le_of_ble_eq_true rfl) zf_5 tyX5 tyX5_ok nmX5 zw_864 rfl (by decide +kernel) rfl rfl (Nat.le_of_ble_eq_true rfl) dX5_play_151 (w2 := (ws_X5_play cI cJ cZ cA q_X_quarrel q_p1 q_X_quarrel_hers q_X_quarrel_his q_X_quarrel_talks a_p1 t1 v_X_quarrel_gone a_X_quarrel_hers a_X_quarrel_his a_X_quarrel_talks)) rfl (fun H locs hP hD hS => ?_)
    refine lv_aload_n hx hb dX5_play_154 rfl (lv_at hl 0 rfl) ?_
    refine lv_dup hx hb dX5_play_155 rfl ?_
    refine zget (C := RX5) (T := TX5) (N := 5) S hK hP 1 rfl rfl 4 (Nat.le_of_ble_eq_true rfl) zf_5 zw_865 rfl dX5_play_156 ?_
    refine lv_iconst (v := 1) hx hb dX5_play_159 (by decide) ?_
    refine lv_iadd hx hb dX5_play_160 ?_
    refine zputf (C := RX5) (T := TX5) (N := 5) (ty := .int) S hK hP hD hS 1 rfl rfl 4 (Nat.le_of_ble_eq_true rfl) zf_5 tyX5 tyX5_ok nmX5 zw_865 rfl (by decide +kernel) rfl rfl (Nat.le_of_ble_eq_true rfl) dX5_play_161 (w2 := (ws_X5_play cI cJ cZ cA q_X_quarrel q_p1 q_X_quarrel_hers q_X_quarrel_his q_X_quarrel_talks a_p1 t1 (v_X_quarrel_gone + 1) a_X_quarrel_hers a_X_quarrel_his a_X_quarrel_talks)) rfl (fun H locs hP hD hS => ?_)
    exact B164 k102 hk102 x4 t1 (v_X_quarrel_gone + 1) a_X_quarrel_hers a_X_quarrel_his a_X_quarrel_talks _ _ _ hl hP hD hS hg
  have B102 : ∀  (n : Nat) (x4 : Int32) (v_X_quarrel_firstTalk : Int32) (v_X_quarrel_gone : Int32) (a_X_quarrel_hers : Nat → Int32) (a_X_quarrel_his : Nat → Int32) (a_X_quarrel_talks : Nat → Int32) (H : Heap) (locs : List Loc) (ls : Array Slot) (hl : lv_has ls 5 [(0, .ref q_X_quarrel), (2, .int x2), (3, .int x3), (4, .int x4)]) (hP : va_P D vwCl (ws_X5_play cI cJ cZ cA q_X_quarrel q_p1 q_X_quarrel_hers q_X_quarrel_his q_X_quarrel_talks a_p1 v_X_quarrel_firstTalk v_X_quarrel_gone a_X_quarrel_hers a_X_quarrel_his a_X_quarrel_talks) H) (hD : va_D A (ws_X5_play cI cJ cZ cA q_X_quarrel q_p1 q_X_quarrel_hers q_X_quarrel_his q_X_quarrel_talks a_p1 v_X_quarrel_firstTalk v_X_quarrel_gone a_X_quarrel_hers a_X_quarrel_his a_X_quarrel_talks)) (hS : va_S A s.heap H locs), g_X5_play_102 a_p1 x2 x3 n x4 v_X_quarrel_firstTalk v_X_quarrel_gone a_X_quarrel_hers a_X_quarrel_his a_X_quarrel_talks = some o → W p l e rm_X5_play s m args below meth c H locs 0 0 Q (F0 m 102 ls []) := by
    intro  n
    induction n with
    | zero => intro x4 v_X_quarrel_firstTalk v_X_quarrel_gone a_X_quarrel_hers a_X_quarrel_his a_X_quarrel_talks H locs ls hl hP hD hS hg; exact nomatch (show (none : Option (Int32 × Int32 × (Nat → Int32) × (Nat → Int32) × (Nat → Int32))) = some o from hg)
    | succ n ih =>
      intro x4 v_X_quarrel_firstTalk v_X_quarrel_gone a_X_quarrel_hers a_X_quarrel_his a_X_quarrel_talks H locs ls hl hP hD hS hg
      have hg : g_X5_play_102b a_p1 x2 x3 (g_X5_play_102 a_p1 x2 x3 n) x4 v_X_quarrel_firstTalk v_X_quarrel_gone a_X_quarrel_hers a_X_quarrel_his a_X_quarrel_talks = some o := hg
      refine lv_iload hx hb dX5_play_102 (lv_at hl 3 rfl) ?_
      refine lv_iload_n hx hb dX5_play_104 rfl (lv_at hl 1 rfl) ?_
      refine lv_icmp_ge (tgt := 170) hx hb dX5_play_105 (by decide) (fun h105 => ?_) (fun h105 => ?_)
      · have hg := zp hg h105
        exact hret v_X_quarrel_firstTalk v_X_quarrel_gone a_X_quarrel_hers a_X_quarrel_his a_X_quarrel_talks hg _ _ _ _ hP hS dX5_play_170
      · have hg := zn hg h105
        refine lv_aload_n hx hb dX5_play_108 rfl (lv_at hl 0 rfl) ?_
        refine zget (C := RX5) (T := TX5) (N := 5) S hK hP 1 rfl rfl 4 (Nat.le_of_ble_eq_true rfl) zf_5 zw_865 rfl dX5_play_109 ?_
        refine lv_iload_n hx hb dX5_play_112 rfl (lv_at hl 2 rfl) ?_
        refine lv_icmp_ge (tgt := 170) hx hb dX5_play_113 (by decide) (fun h113 => ?_) (fun h113 => ?_)
        · have hg := zp hg h113
          exact hret v_X_quarrel_firstTalk v_X_quarrel_gone a_X_quarrel_hers a_X_quarrel_his a_X_quarrel_talks hg _ _ _ _ hP hS dX5_play_170
        · have hg := zn hg h113
          refine lv_aload_n hx hb dX5_play_116 rfl (lv_at hl 0 rfl) ?_
          refine zget (C := RX5) (T := TX5) (N := 5) S hK hP 1 rfl rfl 2 (Nat.le_of_ble_eq_true rfl) zf_5 zw_61 rfl dX5_play_117 ?_
          refine lv_iload hx hb dX5_play_120 (lv_at hl 3 rfl) ?_
          obtain ⟨h11, hg⟩ := zck hg
          refine ziald hx hb hK hP 4 0 rfl rfl (j := (x4.toNatClampNeg)) h11 rfl dX5_play_122 ?_
          refine lv_aload_n hx hb dX5_play_123 rfl (lv_at hl 0 rfl) ?_
          refine zget (C := RX5) (T := TX5) (N := 5) S hK hP 1 rfl rfl 4 (Nat.le_of_ble_eq_true rfl) zf_5 zw_865 rfl dX5_play_124 ?_
          refine lv_ishr hx hb dX5_play_127 ?_
          refine lv_iconst (v := 1) hx hb dX5_play_128 (by decide) ?_
          refine lv_iand hx hb dX5_play_129 ?_
          refine lv_if_eq (tgt := 164) hx hb dX5_play_130 (by decide) (fun h130 => ?_) (fun h130 => ?_)
          · have hg := zp hg h130
            exact B164 (g_X5_play_102 a_p1 x2 x3 n) ih x4 v_X_quarrel_firstTalk v_X_quarrel_gone a_X_quarrel_hers a_X_quarrel_his a_X_quarrel_talks _ _ _ hl hP hD hS hg
          · have hg := zn hg h130
            refine lv_aload_n hx hb dX5_play_133 rfl (lv_at hl 0 rfl) ?_
            refine lv_aload_n hx hb dX5_play_134 rfl (lv_at hl 0 rfl) ?_
            refine zget (C := RX5) (T := TX5) (N := 5) S hK hP 1 rfl rfl 3 (Nat.le_of_ble_eq_true rfl) zf_5 zw_864 rfl dX5_play_135 ?_
            refine lv_iconst (v := (-1)) hx hb dX5_play_138 (by decide) ?_
            refine lv_icmp_ne (tgt := 147) hx hb dX5_play_139 (by decide) (fun h139 => ?_) (fun h139 => ?_)
            · have hg := zn hg h139
              refine lv_aload_n hx hb dX5_play_147 rfl (lv_at hl 0 rfl) ?_
              refine zget (C := RX5) (T := TX5) (N := 5) S hK hP 1 rfl rfl 3 (Nat.le_of_ble_eq_true rfl) zf_5 zw_864 rfl dX5_play_148 ?_
              exact B151 (g_X5_play_102 a_p1 x2 x3 n) ih x4 v_X_quarrel_firstTalk v_X_quarrel_firstTalk v_X_quarrel_gone a_X_quarrel_hers a_X_quarrel_his a_X_quarrel_talks _ _ _ hl hP hD hS hg
            · have hg := zp hg h139
              refine lv_iload hx hb dX5_play_142 (lv_at hl 3 rfl) ?_
              refine lv_goto (tgt := 151) hx hb dX5_play_144 (by decide) ?_
              exact B151 (g_X5_play_102 a_p1 x2 x3 n) ih x4 x4 v_X_quarrel_firstTalk v_X_quarrel_gone a_X_quarrel_hers a_X_quarrel_his a_X_quarrel_talks _ _ _ hl hP hD hS hg
  have B70 : ∀  (n : Nat) (x4 : Int32) (v_X_quarrel_firstTalk : Int32) (v_X_quarrel_gone : Int32) (a_X_quarrel_hers : Nat → Int32) (a_X_quarrel_his : Nat → Int32) (a_X_quarrel_talks : Nat → Int32) (H : Heap) (locs : List Loc) (ls : Array Slot) (hl : lv_has ls 5 [(0, .ref q_X_quarrel), (1, .ref q_p1), (2, .int x2), (3, .int x3), (4, .int x4)]) (hP : va_P D vwCl (ws_X5_play cI cJ cZ cA q_X_quarrel q_p1 q_X_quarrel_hers q_X_quarrel_his q_X_quarrel_talks a_p1 v_X_quarrel_firstTalk v_X_quarrel_gone a_X_quarrel_hers a_X_quarrel_his a_X_quarrel_talks) H) (hD : va_D A (ws_X5_play cI cJ cZ cA q_X_quarrel q_p1 q_X_quarrel_hers q_X_quarrel_his q_X_quarrel_talks a_p1 v_X_quarrel_firstTalk v_X_quarrel_gone a_X_quarrel_hers a_X_quarrel_his a_X_quarrel_talks)) (hS : va_S A s.heap H locs), g_X5_play_70 a_p1 x2 x3 n x4 v_X_quarrel_firstTalk v_X_quarrel_gone a_X_quarrel_hers a_X_quarrel_his a_X_quarrel_talks = some o → W p l e rm_X5_play s m args below meth c H locs 0 0 Q (F0 m 70 ls []) := by
    intro  n
    induction n with
    | zero => intro x4 v_X_quarrel_firstTalk v_X_quarrel_gone a_X_quarrel_hers a_X_quarrel_his a_X_quarrel_talks H locs ls hl hP hD hS hg; exact nomatch (show (none : Option (Int32 × Int32 × (Nat → Int32) × (Nat → Int32) × (Nat → Int32))) = some o from hg)
    | succ n ih =>
      intro x4 v_X_quarrel_firstTalk v_X_quarrel_gone a_X_quarrel_hers a_X_quarrel_his a_X_quarrel_talks H locs ls hl hP hD hS hg
      have hg : g_X5_play_70b a_p1 x2 x3 (g_X5_play_70 a_p1 x2 x3 n) x4 v_X_quarrel_firstTalk v_X_quarrel_gone a_X_quarrel_hers a_X_quarrel_his a_X_quarrel_talks = some o := hg
      refine lv_iload hx hb dX5_play_70 (lv_at hl 4 rfl) ?_
      refine lv_if_lt (tgt := 89) hx hb dX5_play_72 (by decide) (fun h72 => ?_) (fun h72 => ?_)
      · have hg := zp hg h72
        refine lv_aload_n hx hb dX5_play_89 rfl (lv_at hl 0 rfl) ?_
        refine lv_iconst (v := (-1)) hx hb dX5_play_90 (by decide) ?_
        refine zputf (C := RX5) (T := TX5) (N := 5) (ty := .int) S hK hP hD hS 1 rfl rfl 3 (Nat.le_of_ble_eq_true rfl) zf_5 tyX5 tyX5_ok nmX5 zw_864 rfl (by decide +kernel) rfl rfl (Nat.le_of_ble_eq_true rfl) dX5_play_91 (w2 := (ws_X5_play cI cJ cZ cA q_X_quarrel q_p1 q_X_quarrel_hers q_X_quarrel_his q_X_quarrel_talks a_p1 (-1) v_X_quarrel_gone a_X_quarrel_hers a_X_quarrel_his a_X_quarrel_talks)) rfl (fun H locs hP hD hS => ?_)
        refine lv_aload_n hx hb dX5_play_94 rfl (lv_at hl 0 rfl) ?_
        refine lv_iconst (v := 0) hx hb dX5_play_95 (by decide) ?_
        refine zputf (C := RX5) (T := TX5) (N := 5) (ty := .int) S hK hP hD hS 1 rfl rfl 4 (Nat.le_of_ble_eq_true rfl) zf_5 tyX5 tyX5_ok nmX5 zw_865 rfl (by decide +kernel) rfl rfl (Nat.le_of_ble_eq_true rfl) dX5_play_96 (w2 := (ws_X5_play cI cJ cZ cA q_X_quarrel q_p1 q_X_quarrel_hers q_X_quarrel_his q_X_quarrel_talks a_p1 (-1) 0 a_X_quarrel_hers a_X_quarrel_his a_X_quarrel_talks)) rfl (fun H locs hP hD hS => ?_)
        refine lv_iconst (v := 0) hx hb dX5_play_99 (by decide) ?_
        refine lv_istore (lv' := [(4, .int 0), (0, .ref q_X_quarrel), (1, .ref q_p1), (2, .int x2), (3, .int x3)]) hx hb dX5_play_100 hl (by decide) rfl (fun ls hl => ?_)
        exact B102 zF 0 (-1) 0 a_X_quarrel_hers a_X_quarrel_his a_X_quarrel_talks _ _ _ (lv_sub hl [1, 3, 4, 0] rfl) hP hD hS hg
      · have hg := zn hg h72
        refine lv_aload_n hx hb dX5_play_75 rfl (lv_at hl 0 rfl) ?_
        refine lv_aload_n hx hb dX5_play_76 rfl (lv_at hl 1 rfl) ?_
        refine lv_iload hx hb dX5_play_77 (lv_at hl 4 rfl) ?_
        refine lv_iload_n hx hb dX5_play_79 rfl (lv_at hl 3 rfl) ?_
        obtain ⟨v12, hc13, hg⟩ := zbd hg
        refine zcallV (rest := []) S (c_X5_weigh l D cI cJ cZ cA ga q_X_quarrel q_p1 q_X_quarrel_talks q_X_quarrel_hers q_X_quarrel_his (.int v_X_quarrel_firstTalk) (.int v_X_quarrel_gone) a_X_quarrel_talks a_X_quarrel_hers a_p1 a_X_quarrel_his x4 x3 v12 hc13) (zgV zw_867 zw_868 zw_869 zw_15 zw_870) rfl hd_X5_weigh ⟨rfl, rfl⟩ ⟨Nat.le_of_ble_eq_true rfl, Nat.le_of_ble_eq_true rfl⟩ 1 5 rfl rfl rfl hl.1 rfl (Nat.le_of_ble_eq_true rfl) dX5_play_80 hP hD hS hA hK hG (isC := [1, 4, 2, 0, 3]) rfl (by decide +kernel) rfl ⟨Nat.zero_le _, Nat.zero_le _⟩ (pl := [some 3, some 0, some 2, some 4, some 1]) (nw := 5) rfl (by decide +kernel) (w2 := (ws_X5_play cI cJ cZ cA q_X_quarrel q_p1 q_X_quarrel_hers q_X_quarrel_his q_X_quarrel_talks a_p1 v_X_quarrel_firstTalk v_X_quarrel_gone v12.2.1 v12.2.2 v12.1)) rfl (st1 := []) rfl (fun H locs hP hD hS => ?_)
        refine lv_iinc (k := 4) (v := x4 + (-1)) (lv' := [(4, .int (x4 + (-1))), (0, .ref q_X_quarrel), (1, .ref q_p1), (2, .int x2), (3, .int x3)]) hx hb dX5_play_83 hl rfl (zinc (by decide)) (by decide) rfl (fun ls hl => ?_)
        refine lv_goto (tgt := 70) hx hb dX5_play_86 (by decide) ?_
        exact ih (x4 + (-1)) v_X_quarrel_firstTalk v_X_quarrel_gone v12.2.1 v12.2.2 v12.1 _ _ _ (lv_sub hl [1, 2, 3, 4, 0] rfl) hP hD hS hg
  refine lv_aload_n hx hb dX5_play_0 rfl (lv_at hl 1 rfl) ?_
  refine lv_ifnull hx hb dX5_play_1 ?_
  refine lv_aload_n hx hb dX5_play_4 rfl (lv_at hl 1 rfl) ?_
  refine va_alen (v := 5) hx hb hK hP 0 0 rfl rfl (show Int32.ofNat 5 = 5 by decide) dX5_play_5 ?_
  refine lv_iconst (v := 4) hx hb dX5_play_6 (by decide) ?_
  refine lv_icmp_le (tgt := 30) hx hb dX5_play_7 (by decide) (fun h7 => ?_) (fun h7 => ?_)
  · have hg := zp hg h7
    exact hret v_X_quarrel_firstTalk v_X_quarrel_gone a_X_quarrel_hers a_X_quarrel_his a_X_quarrel_talks hg _ _ _ _ hP hS dX5_play_30
  · have hg := zn hg h7
    refine lv_iload_n hx hb dX5_play_10 rfl (lv_at hl 2 rfl) ?_
    refine lv_iconst (v := 0) hx hb dX5_play_11 (by decide) ?_
    refine lv_bipush (v := 40) hx hb dX5_play_12 (by decide) ?_
    obtain ⟨v1, hc2, hg⟩ := zbd hg
    refine zcallSN (rest := []) S (c_X10_isIn l D cI cJ cZ cA ga x2 0 40 v1 hc2) (zgI zw_190) rfl hd_X10_isIn hG.1.2.1.2.2.2.2.2.2.2 (List.mem_cons_of_mem _ zw_2) (List.mem_cons_of_mem _ zw_189) ⟨rfl, rfl⟩ ⟨Nat.le_of_ble_eq_true rfl, Nat.le_of_ble_eq_true rfl⟩ rfl hl.1 rfl (Nat.le_of_ble_eq_true rfl) dX5_play_14 hP hD hS hA hK hG (isC := []) rfl (by decide +kernel) rfl ⟨Nat.zero_le _, Nat.zero_le _⟩ (pl := [none, none, none, none, none]) (nw := 5) rfl (by decide +kernel) (w2 := (ws_X5_play cI cJ cZ cA q_X_quarrel q_p1 q_X_quarrel_hers q_X_quarrel_his q_X_quarrel_talks a_p1 v_X_quarrel_firstTalk v_X_quarrel_gone a_X_quarrel_hers a_X_quarrel_his a_X_quarrel_talks)) rfl (st1 := [.int v1]) rfl (fun H locs hP hD hS => ?_)
    refine lv_if_eq (tgt := 30) hx hb dX5_play_17 (by decide) (fun h17 => ?_) (fun h17 => ?_)
    · have hg := zp hg h17
      exact hret v_X_quarrel_firstTalk v_X_quarrel_gone a_X_quarrel_hers a_X_quarrel_his a_X_quarrel_talks hg _ _ _ _ hP hS dX5_play_30
    · have hg := zn hg h17
      refine lv_iload_n hx hb dX5_play_20 rfl (lv_at hl 3 rfl) ?_
      refine lv_iconst (v := 1) hx hb dX5_play_21 (by decide) ?_
      refine lv_bipush (v := 20) hx hb dX5_play_22 (by decide) ?_
      obtain ⟨v3, hc4, hg⟩ := zbd hg
      refine zcallSN (rest := []) S (c_X10_isIn l D cI cJ cZ cA ga x3 1 20 v3 hc4) (zgI zw_190) rfl hd_X10_isIn hG.1.2.1.2.2.2.2.2.2.2 (List.mem_cons_of_mem _ zw_2) (List.mem_cons_of_mem _ zw_189) ⟨rfl, rfl⟩ ⟨Nat.le_of_ble_eq_true rfl, Nat.le_of_ble_eq_true rfl⟩ rfl hl.1 rfl (Nat.le_of_ble_eq_true rfl) dX5_play_24 hP hD hS hA hK hG (isC := []) rfl (by decide +kernel) rfl ⟨Nat.zero_le _, Nat.zero_le _⟩ (pl := [none, none, none, none, none]) (nw := 5) rfl (by decide +kernel) (w2 := (ws_X5_play cI cJ cZ cA q_X_quarrel q_p1 q_X_quarrel_hers q_X_quarrel_his q_X_quarrel_talks a_p1 v_X_quarrel_firstTalk v_X_quarrel_gone a_X_quarrel_hers a_X_quarrel_his a_X_quarrel_talks)) rfl (st1 := [.int v3]) rfl (fun H locs hP hD hS => ?_)
      refine lv_if_ne (tgt := 31) hx hb dX5_play_27 (by decide) (fun h27 => ?_) (fun h27 => ?_)
      · have hg := zn hg h27
        refine lv_aload_n hx hb dX5_play_31 rfl (lv_at hl 0 rfl) ?_
        refine zget (C := RX5) (T := TX5) (N := 5) S hK hP 1 rfl rfl 0 (Nat.le_of_ble_eq_true rfl) zf_5 zw_59 rfl dX5_play_32 ?_
        refine lv_iconst (v := 0) hx hb dX5_play_35 (by decide) ?_
        obtain ⟨v5, hc6, hg⟩ := zbd hg
        refine zcallS (rest := []) S (c_J7_fill_53178 l D cI cJ cZ cA ga q_X_quarrel_hers 21 a_X_quarrel_hers 0 v5 hc6) (zgS zw_866 zw_641 zw_642 zw_643) rfl hd_J7_fill_53178 ⟨rfl, rfl⟩ ⟨Nat.le_of_ble_eq_true rfl, Nat.le_of_ble_eq_true rfl⟩ rfl hl.1 rfl (Nat.le_of_ble_eq_true rfl) dX5_play_36 hP hD hS hA hK hG (isC := [2]) rfl (by decide +kernel) rfl ⟨Nat.zero_le _, Nat.zero_le _⟩ (pl := [none, none, some 0, none, none]) (nw := 5) rfl (by decide +kernel) (w2 := (ws_X5_play cI cJ cZ cA q_X_quarrel q_p1 q_X_quarrel_hers q_X_quarrel_his q_X_quarrel_talks a_p1 v_X_quarrel_firstTalk v_X_quarrel_gone v5 a_X_quarrel_his a_X_quarrel_talks)) rfl (st1 := []) rfl (fun H locs hP hD hS => ?_)
        refine lv_aload_n hx hb dX5_play_39 rfl (lv_at hl 0 rfl) ?_
        refine zget (C := RX5) (T := TX5) (N := 5) S hK hP 1 rfl rfl 1 (Nat.le_of_ble_eq_true rfl) zf_5 zw_60 rfl dX5_play_40 ?_
        refine lv_iconst (v := 0) hx hb dX5_play_43 (by decide) ?_
        obtain ⟨v7, hc8, hg⟩ := zbd hg
        refine zcallS (rest := []) S (c_J7_fill_53178 l D cI cJ cZ cA ga q_X_quarrel_his 21 a_X_quarrel_his 0 v7 hc8) (zgS zw_866 zw_641 zw_642 zw_643) rfl hd_J7_fill_53178 ⟨rfl, rfl⟩ ⟨Nat.le_of_ble_eq_true rfl, Nat.le_of_ble_eq_true rfl⟩ rfl hl.1 rfl (Nat.le_of_ble_eq_true rfl) dX5_play_44 hP hD hS hA hK hG (isC := [3]) rfl (by decide +kernel) rfl ⟨Nat.zero_le _, Nat.zero_le _⟩ (pl := [none, none, none, some 0, none]) (nw := 5) rfl (by decide +kernel) (w2 := (ws_X5_play cI cJ cZ cA q_X_quarrel q_p1 q_X_quarrel_hers q_X_quarrel_his q_X_quarrel_talks a_p1 v_X_quarrel_firstTalk v_X_quarrel_gone v5 v7 a_X_quarrel_talks)) rfl (st1 := []) rfl (fun H locs hP hD hS => ?_)
        refine lv_aload_n hx hb dX5_play_47 rfl (lv_at hl 0 rfl) ?_
        refine zget (C := RX5) (T := TX5) (N := 5) S hK hP 1 rfl rfl 0 (Nat.le_of_ble_eq_true rfl) zf_5 zw_59 rfl dX5_play_48 ?_
        refine lv_iload_n hx hb dX5_play_51 rfl (lv_at hl 3 rfl) ?_
        refine lv_aload_n hx hb dX5_play_52 rfl (lv_at hl 1 rfl) ?_
        refine lv_iconst (v := 2) hx hb dX5_play_53 (by decide) ?_
        refine ziald hx hb hK hP 0 0 rfl rfl (j := 2) (zin (by decide)) (by decide) dX5_play_54 ?_
        obtain ⟨h9, hg⟩ := zck hg
        refine ziast hx hb hK hP hD hS 2 0 rfl rfl (j := (x3.toNatClampNeg)) h9 rfl dX5_play_55 (w2 := (ws_X5_play cI cJ cZ cA q_X_quarrel q_p1 q_X_quarrel_hers q_X_quarrel_his q_X_quarrel_talks a_p1 v_X_quarrel_firstTalk v_X_quarrel_gone (upd v5 (x3.toNatClampNeg) (a_p1 2)) v7 a_X_quarrel_talks)) rfl (fun H locs hP hD hS => ?_)
        refine lv_aload_n hx hb dX5_play_56 rfl (lv_at hl 0 rfl) ?_
        refine zget (C := RX5) (T := TX5) (N := 5) S hK hP 1 rfl rfl 1 (Nat.le_of_ble_eq_true rfl) zf_5 zw_60 rfl dX5_play_57 ?_
        refine lv_iload_n hx hb dX5_play_60 rfl (lv_at hl 3 rfl) ?_
        refine lv_aload_n hx hb dX5_play_61 rfl (lv_at hl 1 rfl) ?_
        refine lv_iconst (v := 3) hx hb dX5_play_62 (by decide) ?_
        refine ziald hx hb hK hP 0 0 rfl rfl (j := 3) (zin (by decide)) (by decide) dX5_play_63 ?_
        obtain ⟨h10, hg⟩ := zck hg
        refine ziast hx hb hK hP hD hS 3 0 rfl rfl (j := (x3.toNatClampNeg)) h10 rfl dX5_play_64 (w2 := (ws_X5_play cI cJ cZ cA q_X_quarrel q_p1 q_X_quarrel_hers q_X_quarrel_his q_X_quarrel_talks a_p1 v_X_quarrel_firstTalk v_X_quarrel_gone (upd v5 (x3.toNatClampNeg) (a_p1 2)) (upd v7 (x3.toNatClampNeg) (a_p1 3)) a_X_quarrel_talks)) rfl (fun H locs hP hD hS => ?_)
        refine lv_iload_n hx hb dX5_play_65 rfl (lv_at hl 2 rfl) ?_
        refine lv_iconst (v := 1) hx hb dX5_play_66 (by decide) ?_
        refine lv_isub hx hb dX5_play_67 ?_
        refine lv_istore (lv' := [(4, .int (x2 - 1)), (0, .ref q_X_quarrel), (1, .ref q_p1), (2, .int x2), (3, .int x3)]) hx hb dX5_play_68 hl (by decide) rfl (fun ls hl => ?_)
        exact B70 zF (x2 - 1) v_X_quarrel_firstTalk v_X_quarrel_gone (upd v5 (x3.toNatClampNeg) (a_p1 2)) (upd v7 (x3.toNatClampNeg) (a_p1 3)) a_X_quarrel_talks _ _ _ (lv_sub hl [1, 2, 3, 4, 0] rfl) hP hD hS hg
      · have hg := zp hg h27
        exact hret v_X_quarrel_firstTalk v_X_quarrel_gone a_X_quarrel_hers a_X_quarrel_his a_X_quarrel_talks hg _ _ _ _ hP hS dX5_play_30

/-! SpokenClock.silence(III)I -/
abbrev ws_X10_silence (cI cJ cZ cA : ClassId) (q_X q_X_refusals q_X_quarrel q_X_now q_X_now_stake q_X_quarrel_hers q_X_quarrel_his q_X_quarrel_talks : Nat) (u_X_draft : Value) (u_X_text : Value) (u_X_reader : Value) (u_X_rule : Value) (u_X_day : Value) (u_X_plan : Value) (u_X_guess : Value) (u_X_fraction : Value) (u_X_firstImage : Value) (u_X_secondImage : Value) (u_X_kept : Value) (u_X_now_people : Value) (u_X_now_talks : Value) (u_X_now_dues : Value) (u_X_now_sights : Value) (u_X_now_rule : Value) (u_X_now_settings : Value) (a_X_refusals : Nat → Int32) (v_X_quarrel_firstTalk : Int32) (v_X_quarrel_gone : Int32) (a_X_now_stake : Nat → Int32) (a_X_quarrel_hers : Nat → Int32) (a_X_quarrel_his : Nat → Int32) (a_X_quarrel_talks : Nat → Int32) : va_W := [(q_X, .inr (10, [.ref q_X_now, u_X_draft, u_X_text, u_X_reader, u_X_rule, u_X_day, u_X_plan, u_X_guess, .ref q_X_quarrel, u_X_fraction, u_X_firstImage, u_X_secondImage, u_X_kept, .ref q_X_refusals])), (q_X_refusals, .inl (cI, 3, .inl a_X_refusals)), (q_X_now, .inr (9, [u_X_now_people, u_X_now_talks, u_X_now_dues, u_X_now_sights, u_X_now_rule, u_X_now_settings, .ref q_X_now_stake])), (q_X_quarrel, .inr (5, [.ref q_X_quarrel_hers, .ref q_X_quarrel_his, .ref q_X_quarrel_talks, .int v_X_quarrel_firstTalk, .int v_X_quarrel_gone])), (q_X_now_stake, .inl (cI, 5, .inl a_X_now_stake)), (q_X_quarrel_hers, .inl (cI, 21, .inl a_X_quarrel_hers)), (q_X_quarrel_his, .inl (cI, 21, .inl a_X_quarrel_his)), (q_X_quarrel_talks, .inl (cI, 40, .inl a_X_quarrel_talks))]
abbrev rm_X10_silence : Room := { frames := 3, cells := 0, slots := 0, locals := 64 }
def g_X10_silence_29 (a_X_now_stake : Nat → Int32) (x1 : Int32) (x2 : Int32) (x3 : Int32) (a_X_refusals : Nat → Int32) (v_X_quarrel_firstTalk : Int32) (v_X_quarrel_gone : Int32) (a_X_quarrel_hers : Nat → Int32) (a_X_quarrel_his : Nat → Int32) (a_X_quarrel_talks : Nat → Int32) : Option (Int32 × (Nat → Int32) × Int32 × Int32 × (Nat → Int32) × (Nat → Int32) × (Nat → Int32)) :=
  (g_X10_refuseWorth a_X_refusals).bind fun v3 =>
  some (v3.1, v3.2, v_X_quarrel_firstTalk, v_X_quarrel_gone, a_X_quarrel_hers, a_X_quarrel_his, a_X_quarrel_talks)
def g_X10_silence (a_X_now_stake : Nat → Int32) (x1 : Int32) (x2 : Int32) (x3 : Int32) (a_X_refusals : Nat → Int32) (v_X_quarrel_firstTalk : Int32) (v_X_quarrel_gone : Int32) (a_X_quarrel_hers : Nat → Int32) (a_X_quarrel_his : Nat → Int32) (a_X_quarrel_talks : Nat → Int32) : Option (Int32 × (Nat → Int32) × Int32 × Int32 × (Nat → Int32) × (Nat → Int32) × (Nat → Int32)) :=
  (g_X10_isIn x1 0 40).bind fun v1 =>
  if v1 = 0 then (
    g_X10_silence_29 a_X_now_stake x1 x2 x3 a_X_refusals v_X_quarrel_firstTalk v_X_quarrel_gone a_X_quarrel_hers a_X_quarrel_his a_X_quarrel_talks
  ) else (
    (g_X10_isIn x2 1 20).bind fun v5 =>
    if v5 = 0 then (
      g_X10_silence_29 a_X_now_stake x1 x2 x3 a_X_refusals v_X_quarrel_firstTalk v_X_quarrel_gone a_X_quarrel_hers a_X_quarrel_his a_X_quarrel_talks
    ) else (
      (g_X10_isIn x3 0 3).bind fun v7 =>
      if v7 = 0 then (
        g_X10_silence_29 a_X_now_stake x1 x2 x3 a_X_refusals v_X_quarrel_firstTalk v_X_quarrel_gone a_X_quarrel_hers a_X_quarrel_his a_X_quarrel_talks
      ) else (
        (g_X5_play a_X_now_stake x1 x2 v_X_quarrel_firstTalk v_X_quarrel_gone a_X_quarrel_hers a_X_quarrel_his a_X_quarrel_talks).bind fun v9 =>
        (g_X5_end v9.1 v9.2.1 v9.2.2.1 v9.2.2.2.1 x3).bind fun v11 =>
        some (v11, a_X_refusals, v9.1, v9.2.1, v9.2.2.1, v9.2.2.2.1, v9.2.2.2.2)
      )
    )
  )
theorem hd_X10_silence : yX10_silence.cls = RX10 ∧ yX10_silence.cls ≠ "java/lang/invoke/MethodHandle" ∧ yX10_silence.cls ≠ "java/lang/invoke/VarHandle" ∧ (parseMethodDescriptor yX10_silence.desc).map (fun d => d.parameters.length) = some 3 := by decide +kernel
set_option maxHeartbeats 4000000 in
set_option maxRecDepth 100000 in
theorem c_X10_silence (l : Launch) (D : va_G) (cI cJ cZ cA : ClassId) (ga : Nat → Nat) (q_X q_X_refusals q_X_quarrel q_X_now q_X_now_stake q_X_quarrel_hers q_X_quarrel_his q_X_quarrel_talks : Nat) (u_X_draft : Value) (u_X_text : Value) (u_X_reader : Value) (u_X_rule : Value) (u_X_day : Value) (u_X_plan : Value) (u_X_guess : Value) (u_X_fraction : Value) (u_X_firstImage : Value) (u_X_secondImage : Value) (u_X_kept : Value) (u_X_now_people : Value) (u_X_now_talks : Value) (u_X_now_dues : Value) (u_X_now_sights : Value) (u_X_now_rule : Value) (u_X_now_settings : Value) (a_X_refusals : Nat → Int32) (v_X_quarrel_firstTalk : Int32) (v_X_quarrel_gone : Int32) (a_X_now_stake : Nat → Int32) (a_X_quarrel_hers : Nat → Int32) (a_X_quarrel_his : Nat → Int32) (a_X_quarrel_talks : Nat → Int32) (x1 : Int32) (x2 : Int32) (x3 : Int32) (o : Int32 × (Nat → Int32) × Int32 × Int32 × (Nat → Int32) × (Nat → Int32) × (Nat → Int32)) (hg : g_X10_silence a_X_now_stake x1 x2 x3 a_X_refusals v_X_quarrel_firstTalk v_X_quarrel_gone a_X_quarrel_hers a_X_quarrel_his a_X_quarrel_talks = some o) : zM l yX10_silence (Cond.code yX10_silence cX10_silence 4 (some .int) :: wsL_law) rm_X10_silence D (zTy cI cJ cZ cA) ga [.ref q_X, .int x1, .int x2, .int x3] (ws_X10_silence cI cJ cZ cA q_X q_X_refusals q_X_quarrel q_X_now q_X_now_stake q_X_quarrel_hers q_X_quarrel_his q_X_quarrel_talks u_X_draft u_X_text u_X_reader u_X_rule u_X_day u_X_plan u_X_guess u_X_fraction u_X_firstImage u_X_secondImage u_X_kept u_X_now_people u_X_now_talks u_X_now_dues u_X_now_sights u_X_now_rule u_X_now_settings a_X_refusals v_X_quarrel_firstTalk v_X_quarrel_gone a_X_now_stake a_X_quarrel_hers a_X_quarrel_his a_X_quarrel_talks) (ws_X10_silence cI cJ cZ cA q_X q_X_refusals q_X_quarrel q_X_now q_X_now_stake q_X_quarrel_hers q_X_quarrel_his q_X_quarrel_talks u_X_draft u_X_text u_X_reader u_X_rule u_X_day u_X_plan u_X_guess u_X_fraction u_X_firstImage u_X_secondImage u_X_kept u_X_now_people u_X_now_talks u_X_now_dues u_X_now_sights u_X_now_rule u_X_now_settings o.2.1 o.2.2.1 o.2.2.2.1 a_X_now_stake o.2.2.2.2.1 o.2.2.2.2.2.1 o.2.2.2.2.2.2) (some (.int o.1)) := by
  refine zenterI (own := RX10) (by decide) rfl rfl (Nat.le_of_ble_eq_true rfl) ?_
  intro p e s m args below meth c A ls Q S hA hK hG hl hP hD hS hret0
  have hx := S.1
  have hb := S.2.1
  have ht : ∀ w, w ∈ wsL_law → w.before args s = true := fun w h => S.2.2.2.2 w (List.mem_cons_of_mem _ h)
  have hret : ∀ (r9 : Int32) (a_X_refusals : Nat → Int32) (v_X_quarrel_firstTalk : Int32) (v_X_quarrel_gone : Int32) (a_X_quarrel_hers : Nat → Int32) (a_X_quarrel_his : Nat → Int32) (a_X_quarrel_talks : Nat → Int32), (some (r9, a_X_refusals, v_X_quarrel_firstTalk, v_X_quarrel_gone, a_X_quarrel_hers, a_X_quarrel_his, a_X_quarrel_talks) : Option (Int32 × (Nat → Int32) × Int32 × Int32 × (Nat → Int32) × (Nat → Int32) × (Nat → Int32))) = some o → ∀ (H : Heap) (locs : List Loc) (pc : Nat) (ls : Array Slot), va_P D vwCl (ws_X10_silence cI cJ cZ cA q_X q_X_refusals q_X_quarrel q_X_now q_X_now_stake q_X_quarrel_hers q_X_quarrel_his q_X_quarrel_talks u_X_draft u_X_text u_X_reader u_X_rule u_X_day u_X_plan u_X_guess u_X_fraction u_X_firstImage u_X_secondImage u_X_kept u_X_now_people u_X_now_talks u_X_now_dues u_X_now_sights u_X_now_rule u_X_now_settings a_X_refusals v_X_quarrel_firstTalk v_X_quarrel_gone a_X_now_stake a_X_quarrel_hers a_X_quarrel_his a_X_quarrel_talks) H → va_S A s.heap H locs → decode cX10_silence pc = .ok (.ireturn, 1) → W p l e rm_X10_silence s m args below meth c H locs 0 0 Q (F0 m pc ls [.int r9]) := by
    intro r9 a_X_refusals v_X_quarrel_firstTalk v_X_quarrel_gone a_X_quarrel_hers a_X_quarrel_his a_X_quarrel_talks he; cases he; exact hret0
  have hl : lv_has ls 4 [(0, .ref q_X), (1, .int x1), (2, .int x2), (3, .int x3)] := hl
  have B29 : ∀ (a_X_refusals : Nat → Int32) (v_X_quarrel_firstTalk : Int32) (v_X_quarrel_gone : Int32) (a_X_quarrel_hers : Nat → Int32) (a_X_quarrel_his : Nat → Int32) (a_X_quarrel_talks : Nat → Int32) (H : Heap) (locs : List Loc) (ls : Array Slot) (hl : lv_has ls 4 [(0, .ref q_X)]) (hP : va_P D vwCl (ws_X10_silence cI cJ cZ cA q_X q_X_refusals q_X_quarrel q_X_now q_X_now_stake q_X_quarrel_hers q_X_quarrel_his q_X_quarrel_talks u_X_draft u_X_text u_X_reader u_X_rule u_X_day u_X_plan u_X_guess u_X_fraction u_X_firstImage u_X_secondImage u_X_kept u_X_now_people u_X_now_talks u_X_now_dues u_X_now_sights u_X_now_rule u_X_now_settings a_X_refusals v_X_quarrel_firstTalk v_X_quarrel_gone a_X_now_stake a_X_quarrel_hers a_X_quarrel_his a_X_quarrel_talks) H) (hD : va_D A (ws_X10_silence cI cJ cZ cA q_X q_X_refusals q_X_quarrel q_X_now q_X_now_stake q_X_quarrel_hers q_X_quarrel_his q_X_quarrel_talks u_X_draft u_X_text u_X_reader u_X_rule u_X_day u_X_plan u_X_guess u_X_fraction u_X_firstImage u_X_secondImage u_X_kept u_X_now_people u_X_now_talks u_X_now_dues u_X_now_sights u_X_now_rule u_X_now_settings a_X_refusals v_X_quarrel_firstTalk v_X_quarrel_gone a_X_now_stake a_X_quarrel_hers a_X_quarrel_his a_X_quarrel_talks)) (hS : va_S A s.heap H locs), g_X10_silence_29 a_X_now_stake x1 x2 x3 a_X_refusals v_X_quarrel_firstTalk v_X_quarrel_gone a_X_quarrel_hers a_X_quarrel_his a_X_quarrel_talks = some o → W p l e rm_X10_silence s m args below meth c H locs 0 0 Q (F0 m 29 ls []) := by
    intro  a_X_refusals v_X_quarrel_firstTalk v_X_quarrel_gone a_X_quarrel_hers a_X_quarrel_his a_X_quarrel_talks H locs ls hl hP hD hS hg
    refine lv_aload_n hx hb dX10_silence_29 rfl (lv_at hl 0 rfl) ?_
    obtain ⟨v3, hc4, hg⟩ := zbd hg
    refine zcallV (rest := []) S (c_X10_refuseWorth l D cI cJ cZ cA ga q_X q_X_refusals (.ref q_X_now) u_X_draft u_X_text u_X_reader u_X_rule u_X_day u_X_plan u_X_guess (.ref q_X_quarrel) u_X_fraction u_X_firstImage u_X_secondImage u_X_kept a_X_refusals v3 hc4) (zgV zw_756 zw_757 zw_758 zw_2 zw_759) rfl hd_X10_refuseWorth ⟨rfl, rfl⟩ ⟨Nat.le_of_ble_eq_true rfl, Nat.le_of_ble_eq_true rfl⟩ 0 10 rfl rfl rfl hl.1 rfl (Nat.le_of_ble_eq_true rfl) dX10_silence_30 hP hD hS hA hK hG (isC := [0, 1]) rfl (by decide +kernel) rfl ⟨Nat.zero_le _, Nat.zero_le _⟩ (pl := [some 0, some 1, none, none, none, none, none, none]) (nw := 8) rfl (by decide +kernel) (w2 := (ws_X10_silence cI cJ cZ cA q_X q_X_refusals q_X_quarrel q_X_now q_X_now_stake q_X_quarrel_hers q_X_quarrel_his q_X_quarrel_talks u_X_draft u_X_text u_X_reader u_X_rule u_X_day u_X_plan u_X_guess u_X_fraction u_X_firstImage u_X_secondImage u_X_kept u_X_now_people u_X_now_talks u_X_now_dues u_X_now_sights u_X_now_rule u_X_now_settings v3.2 v_X_quarrel_firstTalk v_X_quarrel_gone a_X_now_stake a_X_quarrel_hers a_X_quarrel_his a_X_quarrel_talks)) rfl (st1 := [.int v3.1]) rfl (fun H locs hP hD hS => ?_)
    exact hret v3.1 v3.2 v_X_quarrel_firstTalk v_X_quarrel_gone a_X_quarrel_hers a_X_quarrel_his a_X_quarrel_talks hg _ _ _ _ hP hS dX10_silence_33
  refine lv_iload_n hx hb dX10_silence_0 rfl (lv_at hl 1 rfl) ?_
  refine lv_iconst (v := 0) hx hb dX10_silence_1 (by decide) ?_
  refine lv_bipush (v := 40) hx hb dX10_silence_2 (by decide) ?_
  obtain ⟨v1, hc2, hg⟩ := zbd hg
  refine zcallS (rest := []) S (c_X10_isIn l D cI cJ cZ cA ga x1 0 40 v1 hc2) (zgS zw_188 zw_189 zw_2 zw_190) rfl hd_X10_isIn ⟨rfl, rfl⟩ ⟨Nat.le_of_ble_eq_true rfl, Nat.le_of_ble_eq_true rfl⟩ rfl hl.1 rfl (Nat.le_of_ble_eq_true rfl) dX10_silence_4 hP hD hS hA hK hG (isC := []) rfl (by decide +kernel) rfl ⟨Nat.zero_le _, Nat.zero_le _⟩ (pl := [none, none, none, none, none, none, none, none]) (nw := 8) rfl (by decide +kernel) (w2 := (ws_X10_silence cI cJ cZ cA q_X q_X_refusals q_X_quarrel q_X_now q_X_now_stake q_X_quarrel_hers q_X_quarrel_his q_X_quarrel_talks u_X_draft u_X_text u_X_reader u_X_rule u_X_day u_X_plan u_X_guess u_X_fraction u_X_firstImage u_X_secondImage u_X_kept u_X_now_people u_X_now_talks u_X_now_dues u_X_now_sights u_X_now_rule u_X_now_settings a_X_refusals v_X_quarrel_firstTalk v_X_quarrel_gone a_X_now_stake a_X_quarrel_hers a_X_quarrel_his a_X_quarrel_talks)) rfl (st1 := [.int v1]) rfl (fun H locs hP hD hS => ?_)
  refine lv_if_eq (tgt := 29) hx hb dX10_silence_7 (by decide) (fun h7 => ?_) (fun h7 => ?_)
  · have hg := zp hg h7
    exact B29 a_X_refusals v_X_quarrel_firstTalk v_X_quarrel_gone a_X_quarrel_hers a_X_quarrel_his a_X_quarrel_talks _ _ _ (lv_sub hl [0] rfl) hP hD hS hg
  · have hg := zn hg h7
    refine lv_iload_n hx hb dX10_silence_10 rfl (lv_at hl 2 rfl) ?_
    refine lv_iconst (v := 1) hx hb dX10_silence_11 (by decide) ?_
    refine lv_bipush (v := 20) hx hb dX10_silence_12 (by decide) ?_
    obtain ⟨v5, hc6, hg⟩ := zbd hg
    refine zcallS (rest := []) S (c_X10_isIn l D cI cJ cZ cA ga x2 1 20 v5 hc6) (zgS zw_188 zw_189 zw_2 zw_190) rfl hd_X10_isIn ⟨rfl, rfl⟩ ⟨Nat.le_of_ble_eq_true rfl, Nat.le_of_ble_eq_true rfl⟩ rfl hl.1 rfl (Nat.le_of_ble_eq_true rfl) dX10_silence_14 hP hD hS hA hK hG (isC := []) rfl (by decide +kernel) rfl ⟨Nat.zero_le _, Nat.zero_le _⟩ (pl := [none, none, none, none, none, none, none, none]) (nw := 8) rfl (by decide +kernel) (w2 := (ws_X10_silence cI cJ cZ cA q_X q_X_refusals q_X_quarrel q_X_now q_X_now_stake q_X_quarrel_hers q_X_quarrel_his q_X_quarrel_talks u_X_draft u_X_text u_X_reader u_X_rule u_X_day u_X_plan u_X_guess u_X_fraction u_X_firstImage u_X_secondImage u_X_kept u_X_now_people u_X_now_talks u_X_now_dues u_X_now_sights u_X_now_rule u_X_now_settings a_X_refusals v_X_quarrel_firstTalk v_X_quarrel_gone a_X_now_stake a_X_quarrel_hers a_X_quarrel_his a_X_quarrel_talks)) rfl (st1 := [.int v5]) rfl (fun H locs hP hD hS => ?_)
    refine lv_if_eq (tgt := 29) hx hb dX10_silence_17 (by decide) (fun h17 => ?_) (fun h17 => ?_)
    · have hg := zp hg h17
      exact B29 a_X_refusals v_X_quarrel_firstTalk v_X_quarrel_gone a_X_quarrel_hers a_X_quarrel_his a_X_quarrel_talks _ _ _ (lv_sub hl [0] rfl) hP hD hS hg
    · have hg := zn hg h17
      refine lv_iload_n hx hb dX10_silence_20 rfl (lv_at hl 3 rfl) ?_
      refine lv_iconst (v := 0) hx hb dX10_silence_21 (by decide) ?_
      refine lv_iconst (v := 3) hx hb dX10_silence_22 (by decide) ?_
      obtain ⟨v7, hc8, hg⟩ := zbd hg
      refine zcallS (rest := []) S (c_X10_isIn l D cI cJ cZ cA ga x3 0 3 v7 hc8) (zgS zw_188 zw_189 zw_2 zw_190) rfl hd_X10_isIn ⟨rfl, rfl⟩ ⟨Nat.le_of_ble_eq_true rfl, Nat.le_of_ble_eq_true rfl⟩ rfl hl.1 rfl (Nat.le_of_ble_eq_true rfl) dX10_silence_23 hP hD hS hA hK hG (isC := []) rfl (by decide +kernel) rfl ⟨Nat.zero_le _, Nat.zero_le _⟩ (pl := [none, none, none, none, none, none, none, none]) (nw := 8) rfl (by decide +kernel) (w2 := (ws_X10_silence cI cJ cZ cA q_X q_X_refusals q_X_quarrel q_X_now q_X_now_stake q_X_quarrel_hers q_X_quarrel_his q_X_quarrel_talks u_X_draft u_X_text u_X_reader u_X_rule u_X_day u_X_plan u_X_guess u_X_fraction u_X_firstImage u_X_secondImage u_X_kept u_X_now_people u_X_now_talks u_X_now_dues u_X_now_sights u_X_now_rule u_X_now_settings a_X_refusals v_X_quarrel_firstTalk v_X_quarrel_gone a_X_now_stake a_X_quarrel_hers a_X_quarrel_his a_X_quarrel_talks)) rfl (st1 := [.int v7]) rfl (fun H locs hP hD hS => ?_)
      refine lv_if_ne (tgt := 34) hx hb dX10_silence_26 (by decide) (fun h26 => ?_) (fun h26 => ?_)
      · have hg := zn hg h26
        refine lv_aload_n hx hb dX10_silence_34 rfl (lv_at hl 0 rfl) ?_
        refine zget (C := RX10) (T := TX10) (N := 14) S hK hP 0 rfl rfl 8 (Nat.le_of_ble_eq_true rfl) zf_10 zw_16 rfl dX10_silence_35 ?_
        refine lv_aload_n hx hb dX10_silence_38 rfl (lv_at hl 0 rfl) ?_
        refine zget (C := RX10) (T := TX10) (N := 14) S hK hP 0 rfl rfl 0 (Nat.le_of_ble_eq_true rfl) zf_10 zw_51 rfl dX10_silence_39 ?_
        refine zget (C := RX9) (T := TX9) (N := 7) S hK hP 2 rfl rfl 6 (Nat.le_of_ble_eq_true rfl) zf_9 zw_850 rfl dX10_silence_42 ?_
        refine lv_iload_n hx hb dX10_silence_45 rfl (lv_at hl 1 rfl) ?_
        refine lv_iload_n hx hb dX10_silence_46 rfl (lv_at hl 2 rfl) ?_
        obtain ⟨v9, hc10, hg⟩ := zbd hg
        refine zcallV (rest := []) S (c_X5_play l D cI cJ cZ cA ga q_X_quarrel q_X_now_stake q_X_quarrel_hers q_X_quarrel_his q_X_quarrel_talks a_X_now_stake v_X_quarrel_firstTalk v_X_quarrel_gone a_X_quarrel_hers a_X_quarrel_his a_X_quarrel_talks x1 x2 v9 hc10) (zgV zw_860 zw_861 zw_862 zw_15 zw_863) rfl hd_X5_play ⟨rfl, rfl⟩ ⟨Nat.le_of_ble_eq_true rfl, Nat.le_of_ble_eq_true rfl⟩ 3 5 rfl rfl rfl hl.1 rfl (Nat.le_of_ble_eq_true rfl) dX10_silence_47 hP hD hS hA hK hG (isC := [4, 3, 5, 6, 7]) rfl (by decide +kernel) rfl ⟨Nat.zero_le _, Nat.zero_le _⟩ (pl := [none, none, none, some 1, some 0, some 2, some 3, some 4]) (nw := 8) rfl (by decide +kernel) (w2 := (ws_X10_silence cI cJ cZ cA q_X q_X_refusals q_X_quarrel q_X_now q_X_now_stake q_X_quarrel_hers q_X_quarrel_his q_X_quarrel_talks u_X_draft u_X_text u_X_reader u_X_rule u_X_day u_X_plan u_X_guess u_X_fraction u_X_firstImage u_X_secondImage u_X_kept u_X_now_people u_X_now_talks u_X_now_dues u_X_now_sights u_X_now_rule u_X_now_settings a_X_refusals v9.1 v9.2.1 a_X_now_stake v9.2.2.1 v9.2.2.2.1 v9.2.2.2.2)) rfl (st1 := []) rfl (fun H locs hP hD hS => ?_)
        refine lv_aload_n hx hb dX10_silence_50 rfl (lv_at hl 0 rfl) ?_
        refine zget (C := RX10) (T := TX10) (N := 14) S hK hP 0 rfl rfl 8 (Nat.le_of_ble_eq_true rfl) zf_10 zw_16 rfl dX10_silence_51 ?_
        refine lv_iload_n hx hb dX10_silence_54 rfl (lv_at hl 3 rfl) ?_
        obtain ⟨v11, hc12, hg⟩ := zbd hg
        refine zcallV (rest := []) S (c_X5_end l D cI cJ cZ cA ga q_X_quarrel q_X_quarrel_hers q_X_quarrel_his (.ref q_X_quarrel_talks) v9.1 v9.2.1 v9.2.2.1 v9.2.2.2.1 x3 v11 hc12) (zgV zw_871 zw_872 zw_873 zw_15 zw_874) rfl hd_X5_end ⟨rfl, rfl⟩ ⟨Nat.le_of_ble_eq_true rfl, Nat.le_of_ble_eq_true rfl⟩ 3 5 rfl rfl rfl hl.1 rfl (Nat.le_of_ble_eq_true rfl) dX10_silence_55 hP hD hS hA hK hG (isC := [3, 5, 6]) rfl (by decide +kernel) rfl ⟨Nat.zero_le _, Nat.zero_le _⟩ (pl := [none, none, none, some 0, none, some 1, some 2, none]) (nw := 8) rfl (by decide +kernel) (w2 := (ws_X10_silence cI cJ cZ cA q_X q_X_refusals q_X_quarrel q_X_now q_X_now_stake q_X_quarrel_hers q_X_quarrel_his q_X_quarrel_talks u_X_draft u_X_text u_X_reader u_X_rule u_X_day u_X_plan u_X_guess u_X_fraction u_X_firstImage u_X_secondImage u_X_kept u_X_now_people u_X_now_talks u_X_now_dues u_X_now_sights u_X_now_rule u_X_now_settings a_X_refusals v9.1 v9.2.1 a_X_now_stake v9.2.2.1 v9.2.2.2.1 v9.2.2.2.2)) rfl (st1 := [.int v11]) rfl (fun H locs hP hD hS => ?_)
        exact hret v11 a_X_refusals v9.1 v9.2.1 v9.2.2.1 v9.2.2.2.1 v9.2.2.2.2 hg _ _ _ _ hP hS dX10_silence_58
      · have hg := zp hg h26
        exact B29 a_X_refusals v_X_quarrel_firstTalk v_X_quarrel_gone a_X_quarrel_hers a_X_quarrel_his a_X_quarrel_talks _ _ _ (lv_sub hl [0] rfl) hP hD hS hg

/-! SpokenClock$Big.become(I)V -/
abbrev ws_X0_become (cI cJ cZ cA : ClassId) (q_B q_B_limbs : Nat) (a_B_limbs : Nat → Int32) : va_W := [(q_B, .inr (0, [.ref q_B_limbs])), (q_B_limbs, .inl (cI, 8, .inl a_B_limbs))]
abbrev rm_X0_become : Room := { frames := 1, cells := 0, slots := 0, locals := 23 }
def g_X0_become (x1 : Int32) (a_B_limbs : Nat → Int32) : Option ((Nat → Int32)) :=
  (g_J7_fill_53178 8 0 a_B_limbs).bind fun v1 =>
  some (upd v1 0 x1)
theorem hd_X0_become : yX0_become.cls = RX0 ∧ yX0_become.cls ≠ "java/lang/invoke/MethodHandle" ∧ yX0_become.cls ≠ "java/lang/invoke/VarHandle" ∧ (parseMethodDescriptor yX0_become.desc).map (fun d => d.parameters.length) = some 1 := by decide +kernel
set_option maxHeartbeats 4000000 in
set_option maxRecDepth 100000 in
theorem c_X0_become (l : Launch) (D : va_G) (cI cJ cZ cA : ClassId) (ga : Nat → Nat) (q_B q_B_limbs : Nat) (a_B_limbs : Nat → Int32) (x1 : Int32) (o : (Nat → Int32)) (hg : g_X0_become x1 a_B_limbs = some o) : zM l yX0_become (Cond.code yX0_become cX0_become 2 none :: wsL_law) rm_X0_become D (zTy cI cJ cZ cA) ga [.ref q_B, .int x1] (ws_X0_become cI cJ cZ cA q_B q_B_limbs a_B_limbs) (ws_X0_become cI cJ cZ cA q_B q_B_limbs o) none := by
  refine zenterV (own := RX0) (by decide) rfl rfl (Nat.le_of_ble_eq_true rfl) ?_
  intro p e s m args below meth c A ls Q S hA hK hG hl hP hD hS hret0
  have hx := S.1
  have hb := S.2.1
  have ht : ∀ w, w ∈ wsL_law → w.before args s = true := fun w h => S.2.2.2.2 w (List.mem_cons_of_mem _ h)
  have hret : ∀ (a_B_limbs : Nat → Int32), (some (a_B_limbs) : Option ((Nat → Int32))) = some o → ∀ (H : Heap) (locs : List Loc) (pc : Nat) (ls : Array Slot), va_P D vwCl (ws_X0_become cI cJ cZ cA q_B q_B_limbs a_B_limbs) H → va_S A s.heap H locs → decode cX0_become pc = .ok (.return_, 1) → W p l e rm_X0_become s m args below meth c H locs 0 0 Q (F0 m pc ls []) := by
    intro a_B_limbs he; cases he; exact hret0
  have hl : lv_has ls 2 [(0, .ref q_B), (1, .int x1)] := hl
  refine lv_aload_n hx hb dX0_become_0 rfl (lv_at hl 0 rfl) ?_
  refine zget (C := RX0) (T := TX0) (N := 1) S hK hP 0 rfl rfl 0 (Nat.le_of_ble_eq_true rfl) zf_0 zw_75 rfl dX0_become_1 ?_
  refine lv_iconst (v := 0) hx hb dX0_become_4 (by decide) ?_
  obtain ⟨v1, hc2, hg⟩ := zbd hg
  refine zcallS (rest := []) S (c_J7_fill_53178 l D cI cJ cZ cA ga q_B_limbs 8 a_B_limbs 0 v1 hc2) (zgS zw_893 zw_641 zw_642 zw_643) rfl hd_J7_fill_53178 ⟨rfl, rfl⟩ ⟨Nat.le_of_ble_eq_true rfl, Nat.le_of_ble_eq_true rfl⟩ rfl hl.1 rfl (Nat.le_of_ble_eq_true rfl) dX0_become_5 hP hD hS hA hK hG (isC := [1]) rfl (by decide +kernel) rfl ⟨Nat.zero_le _, Nat.zero_le _⟩ (pl := [none, some 0]) (nw := 2) rfl (by decide +kernel) (w2 := (ws_X0_become cI cJ cZ cA q_B q_B_limbs v1)) rfl (st1 := []) rfl (fun H locs hP hD hS => ?_)
  refine lv_aload_n hx hb dX0_become_8 rfl (lv_at hl 0 rfl) ?_
  refine zget (C := RX0) (T := TX0) (N := 1) S hK hP 0 rfl rfl 0 (Nat.le_of_ble_eq_true rfl) zf_0 zw_75 rfl dX0_become_9 ?_
  refine lv_iconst (v := 0) hx hb dX0_become_12 (by decide) ?_
  refine lv_iload_n hx hb dX0_become_13 rfl (lv_at hl 1 rfl) ?_
  refine ziast hx hb hK hP hD hS 1 0 rfl rfl (j := 0) (zin (by decide)) (by decide) dX0_become_14 (w2 := (ws_X0_become cI cJ cZ cA q_B q_B_limbs (upd v1 0 x1))) rfl (fun H locs hP hD hS => ?_)
  exact hret (upd v1 0 x1) hg _ _ _ _ hP hS dX0_become_15

/-! SpokenClock$Big.divide(I)V -/
abbrev ws_X0_divide (cI cJ cZ cA : ClassId) (q_B q_B_limbs : Nat) (a_B_limbs : Nat → Int32) : va_W := [(q_B, .inr (0, [.ref q_B_limbs])), (q_B_limbs, .inl (cI, 8, .inl a_B_limbs))]
abbrev rm_X0_divide : Room := { frames := 0, cells := 0, slots := 0, locals := 0 }
def g_X0_divide_6b (x1 : Int32) (k6 : Int64 → Int32 → (Nat → Int32) → Option ((Nat → Int32))) (x2 : Int64) (x4 : Int32) (a_B_limbs : Nat → Int32) : Option ((Nat → Int32)) :=
  if x4 < 0 then (
    some (a_B_limbs)
  ) else (
    if x1 ≤ 0 then (
      some (a_B_limbs)
    ) else (
      if x4 < 0 ∨ 8 ≤ x4.toNatClampNeg then none else
      if x1.toInt64 = 0 then none else
      if x4 < 0 ∨ 8 ≤ x4.toNatClampNeg then none else
      if x1.toInt64 = 0 then none else
      k6 (((x2 <<< ((30 : Int32).toInt64 &&& 63)) ||| ((a_B_limbs (x4.toNatClampNeg)).toInt64)) - ((x2 <<< ((30 : Int32).toInt64 &&& 63)) ||| ((a_B_limbs (x4.toNatClampNeg)).toInt64)) / x1.toInt64 * x1.toInt64) (x4 + (-1)) (upd a_B_limbs (x4.toNatClampNeg) ((((x2 <<< ((30 : Int32).toInt64 &&& 63)) ||| ((a_B_limbs (x4.toNatClampNeg)).toInt64)) / x1.toInt64).toInt32))
    )
  )
def g_X0_divide_6 (x1 : Int32) : Nat → Int64 → Int32 → (Nat → Int32) → Option ((Nat → Int32))
  | 0, _, _, _ => none
  | n + 1, x2, x4, a_B_limbs => g_X0_divide_6b x1 (g_X0_divide_6 x1 n) x2 x4 a_B_limbs
def g_X0_divide (x1 : Int32) (a_B_limbs : Nat → Int32) : Option ((Nat → Int32)) :=
  g_X0_divide_6 x1 zF (0 : Int64) 7 a_B_limbs
theorem hd_X0_divide : yX0_divide.cls = RX0 ∧ yX0_divide.cls ≠ "java/lang/invoke/MethodHandle" ∧ yX0_divide.cls ≠ "java/lang/invoke/VarHandle" ∧ (parseMethodDescriptor yX0_divide.desc).map (fun d => d.parameters.length) = some 1 := by decide +kernel
set_option maxHeartbeats 4000000 in
set_option maxRecDepth 100000 in
theorem c_X0_divide (l : Launch) (D : va_G) (cI cJ cZ cA : ClassId) (ga : Nat → Nat) (q_B q_B_limbs : Nat) (a_B_limbs : Nat → Int32) (x1 : Int32) (o : (Nat → Int32)) (hg : g_X0_divide x1 a_B_limbs = some o) : zM l yX0_divide (Cond.code yX0_divide cX0_divide 7 none :: wsL_law) rm_X0_divide D (zTy cI cJ cZ cA) ga [.ref q_B, .int x1] (ws_X0_divide cI cJ cZ cA q_B q_B_limbs a_B_limbs) (ws_X0_divide cI cJ cZ cA q_B q_B_limbs o) none := by
  refine zenterV (own := RX0) (by decide) rfl rfl (Nat.le_of_ble_eq_true rfl) ?_
  intro p e s m args below meth c A ls Q S hA hK hG hl hP hD hS hret0
  have hx := S.1
  have hb := S.2.1
  have ht : ∀ w, w ∈ wsL_law → w.before args s = true := fun w h => S.2.2.2.2 w (List.mem_cons_of_mem _ h)
  have hret : ∀ (a_B_limbs : Nat → Int32), (some (a_B_limbs) : Option ((Nat → Int32))) = some o → ∀ (H : Heap) (locs : List Loc) (pc : Nat) (ls : Array Slot), va_P D vwCl (ws_X0_divide cI cJ cZ cA q_B q_B_limbs a_B_limbs) H → va_S A s.heap H locs → decode cX0_divide pc = .ok (.return_, 1) → W p l e rm_X0_divide s m args below meth c H locs 0 0 Q (F0 m pc ls []) := by
    intro a_B_limbs he; cases he; exact hret0
  have hl : lv_has ls 7 [(0, .ref q_B), (1, .int x1)] := hl
  have B6 : ∀  (n : Nat) (x2 : Int64) (x4 : Int32) (a_B_limbs : Nat → Int32) (H : Heap) (locs : List Loc) (ls : Array Slot) (hl : lv_has ls 7 [(0, .ref q_B), (1, .int x1), (2, .long x2), (4, .int x4)]) (hP : va_P D vwCl (ws_X0_divide cI cJ cZ cA q_B q_B_limbs a_B_limbs) H) (hD : va_D A (ws_X0_divide cI cJ cZ cA q_B q_B_limbs a_B_limbs)) (hS : va_S A s.heap H locs), g_X0_divide_6 x1 n x2 x4 a_B_limbs = some o → W p l e rm_X0_divide s m args below meth c H locs 0 0 Q (F0 m 6 ls []) := by
    intro  n
    induction n with
    | zero => intro x2 x4 a_B_limbs H locs ls hl hP hD hS hg; exact nomatch (show (none : Option ((Nat → Int32))) = some o from hg)
    | succ n ih =>
      intro x2 x4 a_B_limbs H locs ls hl hP hD hS hg
      have hg : g_X0_divide_6b x1 (g_X0_divide_6 x1 n) x2 x4 a_B_limbs = some o := hg
      refine lv_iload hx hb dX0_divide_6 (lv_at hl 3 rfl) ?_
      refine lv_if_lt (tgt := 55) hx hb dX0_divide_8 (by decide) (fun h8 => ?_) (fun h8 => ?_)
      · have hg := zp hg h8
        exact hret a_B_limbs hg _ _ _ _ hP hS dX0_divide_55
      · have hg := zn hg h8
        refine lv_iload_n hx hb dX0_divide_11 rfl (lv_at hl 1 rfl) ?_
        refine lv_if_le (tgt := 55) hx hb dX0_divide_12 (by decide) (fun h12 => ?_) (fun h12 => ?_)
        · have hg := zp hg h12
          exact hret a_B_limbs hg _ _ _ _ hP hS dX0_divide_55
        · have hg := zn hg h12
          refine lv_lload_n hx hb dX0_divide_15 rfl (lv_at hl 2 rfl) ?_
          refine lv_bipush (v := 30) hx hb dX0_divide_16 (by decide) ?_
          refine lv_lshl hx hb dX0_divide_18 rfl ?_
          refine lv_aload_n hx hb dX0_divide_19 rfl (lv_at hl 0 rfl) ?_
          refine zget (C := RX0) (T := TX0) (N := 1) S hK hP 0 rfl rfl 0 (Nat.le_of_ble_eq_true rfl) zf_0 zw_75 rfl dX0_divide_20 ?_
          refine lv_iload hx hb dX0_divide_23 (lv_at hl 3 rfl) ?_
          obtain ⟨h1, hg⟩ := zck hg
          refine ziald hx hb hK hP 1 0 rfl rfl (j := (x4.toNatClampNeg)) h1 rfl dX0_divide_25 ?_
          refine lv_i2l hx hb dX0_divide_26 rfl ?_
          refine lv_lor hx hb dX0_divide_27 ?_
          refine lv_lstore (lv' := [(5, .long ((x2 <<< ((30 : Int32).toInt64 &&& 63)) ||| ((a_B_limbs (x4.toNatClampNeg)).toInt64))), (0, .ref q_B), (1, .int x1), (2, .long x2), (4, .int x4)]) hx hb dX0_divide_28 hl (by decide) rfl (fun ls hl => ?_)
          refine lv_aload_n hx hb dX0_divide_30 rfl (lv_at hl 1 rfl) ?_
          refine zget (C := RX0) (T := TX0) (N := 1) S hK hP 0 rfl rfl 0 (Nat.le_of_ble_eq_true rfl) zf_0 zw_75 rfl dX0_divide_31 ?_
          refine lv_iload hx hb dX0_divide_34 (lv_at hl 4 rfl) ?_
          refine lv_lload hx hb dX0_divide_36 (lv_at hl 0 rfl) ?_
          refine lv_iload_n hx hb dX0_divide_38 rfl (lv_at hl 2 rfl) ?_
          refine lv_i2l hx hb dX0_divide_39 rfl ?_
          obtain ⟨h2, hg⟩ := zck hg
          refine lv_ldiv hx hb dX0_divide_40 h2 ?_
          refine lv_l2i hx hb dX0_divide_41 rfl ?_
          obtain ⟨h3, hg⟩ := zck hg
          refine ziast hx hb hK hP hD hS 1 0 rfl rfl (j := (x4.toNatClampNeg)) h3 rfl dX0_divide_42 (w2 := (ws_X0_divide cI cJ cZ cA q_B q_B_limbs (upd a_B_limbs (x4.toNatClampNeg) ((((x2 <<< ((30 : Int32).toInt64 &&& 63)) ||| ((a_B_limbs (x4.toNatClampNeg)).toInt64)) / x1.toInt64).toInt32)))) rfl (fun H locs hP hD hS => ?_)
          refine lv_lload hx hb dX0_divide_43 (lv_at hl 0 rfl) ?_
          refine lv_iload_n hx hb dX0_divide_45 rfl (lv_at hl 2 rfl) ?_
          refine lv_i2l hx hb dX0_divide_46 rfl ?_
          obtain ⟨h4, hg⟩ := zck hg
          refine lv_lrem hx hb dX0_divide_47 h4 ?_
          refine lv_lstore_n (lv' := [(2, .long (((x2 <<< ((30 : Int32).toInt64 &&& 63)) ||| ((a_B_limbs (x4.toNatClampNeg)).toInt64)) - ((x2 <<< ((30 : Int32).toInt64 &&& 63)) ||| ((a_B_limbs (x4.toNatClampNeg)).toInt64)) / x1.toInt64 * x1.toInt64)), (5, .long ((x2 <<< ((30 : Int32).toInt64 &&& 63)) ||| ((a_B_limbs (x4.toNatClampNeg)).toInt64))), (0, .ref q_B), (1, .int x1), (4, .int x4)]) hx hb dX0_divide_48 rfl hl (by decide) rfl (fun ls hl => ?_)
          refine lv_iinc (k := 4) (v := x4 + (-1)) (lv' := [(4, .int (x4 + (-1))), (2, .long (((x2 <<< ((30 : Int32).toInt64 &&& 63)) ||| ((a_B_limbs (x4.toNatClampNeg)).toInt64)) - ((x2 <<< ((30 : Int32).toInt64 &&& 63)) ||| ((a_B_limbs (x4.toNatClampNeg)).toInt64)) / x1.toInt64 * x1.toInt64)), (5, .long ((x2 <<< ((30 : Int32).toInt64 &&& 63)) ||| ((a_B_limbs (x4.toNatClampNeg)).toInt64))), (0, .ref q_B), (1, .int x1)]) hx hb dX0_divide_49 hl rfl (zinc (by decide)) (by decide) rfl (fun ls hl => ?_)
          refine lv_goto (tgt := 6) hx hb dX0_divide_52 (by decide) ?_
          exact ih (((x2 <<< ((30 : Int32).toInt64 &&& 63)) ||| ((a_B_limbs (x4.toNatClampNeg)).toInt64)) - ((x2 <<< ((30 : Int32).toInt64 &&& 63)) ||| ((a_B_limbs (x4.toNatClampNeg)).toInt64)) / x1.toInt64 * x1.toInt64) (x4 + (-1)) (upd a_B_limbs (x4.toNatClampNeg) ((((x2 <<< ((30 : Int32).toInt64 &&& 63)) ||| ((a_B_limbs (x4.toNatClampNeg)).toInt64)) / x1.toInt64).toInt32)) _ _ _ (lv_sub hl [3, 4, 1, 0] rfl) hP hD hS hg
  refine lv_lconst (v := 0) hx hb dX0_divide_0 (by decide) ?_
  refine lv_lstore_n (lv' := [(2, .long (0 : Int64)), (0, .ref q_B), (1, .int x1)]) hx hb dX0_divide_1 rfl hl (by decide) rfl (fun ls hl => ?_)
  refine lv_bipush (v := 7) hx hb dX0_divide_2 (by decide) ?_
  refine lv_istore (lv' := [(4, .int 7), (2, .long (0 : Int64)), (0, .ref q_B), (1, .int x1)]) hx hb dX0_divide_4 hl (by decide) rfl (fun ls hl => ?_)
  exact B6 zF (0 : Int64) 7 a_B_limbs _ _ _ (lv_sub hl [2, 3, 1, 0] rfl) hP hD hS hg

/-! SpokenClock$Big.plus(LSpokenClock$Big;)V -/
abbrev ws_X0_plus (cI cJ cZ cA : ClassId) (q_B q_p1 q_B_limbs q_p1_limbs : Nat) (a_B_limbs : Nat → Int32) (a_p1_limbs : Nat → Int32) : va_W := [(q_B, .inr (0, [.ref q_B_limbs])), (q_B_limbs, .inl (cI, 8, .inl a_B_limbs)), (q_p1, .inr (0, [.ref q_p1_limbs])), (q_p1_limbs, .inl (cI, 8, .inl a_p1_limbs))]
abbrev rm_X0_plus : Room := { frames := 0, cells := 0, slots := 0, locals := 0 }
def g_X0_plus_10b (a_p1_limbs : Nat → Int32) (k10 : Int64 → Int32 → (Nat → Int32) → Option ((Nat → Int32))) (x2 : Int64) (x4 : Int32) (a_B_limbs : Nat → Int32) : Option ((Nat → Int32)) :=
  if 8 ≤ x4 then (
    some (a_B_limbs)
  ) else (
    if x4 < 0 ∨ 8 ≤ x4.toNatClampNeg then none else
    if x4 < 0 ∨ 8 ≤ x4.toNatClampNeg then none else
    if x4 < 0 ∨ 8 ≤ x4.toNatClampNeg then none else
    k10 ((x2 + (((a_B_limbs (x4.toNatClampNeg)).toInt64) + ((a_p1_limbs (x4.toNatClampNeg)).toInt64))) >>> ((30 : Int32).toInt64 &&& 63)) (x4 + 1) (upd a_B_limbs (x4.toNatClampNeg) (((x2 + (((a_B_limbs (x4.toNatClampNeg)).toInt64) + ((a_p1_limbs (x4.toNatClampNeg)).toInt64))) &&& (1073741823 : Int64)).toInt32))
  )
def g_X0_plus_10 (a_p1_limbs : Nat → Int32) : Nat → Int64 → Int32 → (Nat → Int32) → Option ((Nat → Int32))
  | 0, _, _, _ => none
  | n + 1, x2, x4, a_B_limbs => g_X0_plus_10b a_p1_limbs (g_X0_plus_10 a_p1_limbs n) x2 x4 a_B_limbs
def g_X0_plus (a_p1_limbs : Nat → Int32) (a_B_limbs : Nat → Int32) : Option ((Nat → Int32)) :=
  g_X0_plus_10 a_p1_limbs zF (0 : Int64) 0 a_B_limbs
theorem hd_X0_plus : yX0_plus.cls = RX0 ∧ yX0_plus.cls ≠ "java/lang/invoke/MethodHandle" ∧ yX0_plus.cls ≠ "java/lang/invoke/VarHandle" ∧ (parseMethodDescriptor yX0_plus.desc).map (fun d => d.parameters.length) = some 1 := by decide +kernel
set_option maxHeartbeats 4000000 in
set_option maxRecDepth 100000 in
theorem c_X0_plus (l : Launch) (D : va_G) (cI cJ cZ cA : ClassId) (ga : Nat → Nat) (q_B q_p1 q_B_limbs q_p1_limbs : Nat) (a_B_limbs : Nat → Int32) (a_p1_limbs : Nat → Int32) (o : (Nat → Int32)) (hg : g_X0_plus a_p1_limbs a_B_limbs = some o) : zM l yX0_plus (Cond.code yX0_plus cX0_plus 5 none :: wsL_law) rm_X0_plus D (zTy cI cJ cZ cA) ga [.ref q_B, .ref q_p1] (ws_X0_plus cI cJ cZ cA q_B q_p1 q_B_limbs q_p1_limbs a_B_limbs a_p1_limbs) (ws_X0_plus cI cJ cZ cA q_B q_p1 q_B_limbs q_p1_limbs o a_p1_limbs) none := by
  refine zenterV (own := RX0) (by decide) rfl rfl (Nat.le_of_ble_eq_true rfl) ?_
  intro p e s m args below meth c A ls Q S hA hK hG hl hP hD hS hret0
  have hx := S.1
  have hb := S.2.1
  have ht : ∀ w, w ∈ wsL_law → w.before args s = true := fun w h => S.2.2.2.2 w (List.mem_cons_of_mem _ h)
  have hret : ∀ (a_B_limbs : Nat → Int32), (some (a_B_limbs) : Option ((Nat → Int32))) = some o → ∀ (H : Heap) (locs : List Loc) (pc : Nat) (ls : Array Slot), va_P D vwCl (ws_X0_plus cI cJ cZ cA q_B q_p1 q_B_limbs q_p1_limbs a_B_limbs a_p1_limbs) H → va_S A s.heap H locs → decode cX0_plus pc = .ok (.return_, 1) → W p l e rm_X0_plus s m args below meth c H locs 0 0 Q (F0 m pc ls []) := by
    intro a_B_limbs he; cases he; exact hret0
  have hl : lv_has ls 5 [(0, .ref q_B), (1, .ref q_p1)] := hl
  have B10 : ∀  (n : Nat) (x2 : Int64) (x4 : Int32) (a_B_limbs : Nat → Int32) (H : Heap) (locs : List Loc) (ls : Array Slot) (hl : lv_has ls 5 [(0, .ref q_B), (1, .ref q_p1), (2, .long x2), (4, .int x4)]) (hP : va_P D vwCl (ws_X0_plus cI cJ cZ cA q_B q_p1 q_B_limbs q_p1_limbs a_B_limbs a_p1_limbs) H) (hD : va_D A (ws_X0_plus cI cJ cZ cA q_B q_p1 q_B_limbs q_p1_limbs a_B_limbs a_p1_limbs)) (hS : va_S A s.heap H locs), g_X0_plus_10 a_p1_limbs n x2 x4 a_B_limbs = some o → W p l e rm_X0_plus s m args below meth c H locs 0 0 Q (F0 m 10 ls []) := by
    intro  n
    induction n with
    | zero => intro x2 x4 a_B_limbs H locs ls hl hP hD hS hg; exact nomatch (show (none : Option ((Nat → Int32))) = some o from hg)
    | succ n ih =>
      intro x2 x4 a_B_limbs H locs ls hl hP hD hS hg
      have hg : g_X0_plus_10b a_p1_limbs (g_X0_plus_10 a_p1_limbs n) x2 x4 a_B_limbs = some o := hg
      refine lv_iload hx hb dX0_plus_10 (lv_at hl 3 rfl) ?_
      refine lv_bipush (v := 8) hx hb dX0_plus_12 (by decide) ?_
      refine lv_icmp_ge (tgt := 61) hx hb dX0_plus_14 (by decide) (fun h14 => ?_) (fun h14 => ?_)
      · have hg := zp hg h14
        exact hret a_B_limbs hg _ _ _ _ hP hS dX0_plus_61
      · have hg := zn hg h14
        refine lv_lload_n hx hb dX0_plus_17 rfl (lv_at hl 2 rfl) ?_
        refine lv_aload_n hx hb dX0_plus_18 rfl (lv_at hl 0 rfl) ?_
        refine zget (C := RX0) (T := TX0) (N := 1) S hK hP 0 rfl rfl 0 (Nat.le_of_ble_eq_true rfl) zf_0 zw_75 rfl dX0_plus_19 ?_
        refine lv_iload hx hb dX0_plus_22 (lv_at hl 3 rfl) ?_
        obtain ⟨h1, hg⟩ := zck hg
        refine ziald hx hb hK hP 1 0 rfl rfl (j := (x4.toNatClampNeg)) h1 rfl dX0_plus_24 ?_
        refine lv_i2l hx hb dX0_plus_25 rfl ?_
        refine lv_aload_n hx hb dX0_plus_26 rfl (lv_at hl 1 rfl) ?_
        refine zget (C := RX0) (T := TX0) (N := 1) S hK hP 2 rfl rfl 0 (Nat.le_of_ble_eq_true rfl) zf_0 zw_75 rfl dX0_plus_27 ?_
        refine lv_iload hx hb dX0_plus_30 (lv_at hl 3 rfl) ?_
        obtain ⟨h2, hg⟩ := zck hg
        refine ziald hx hb hK hP 3 0 rfl rfl (j := (x4.toNatClampNeg)) h2 rfl dX0_plus_32 ?_
        refine lv_i2l hx hb dX0_plus_33 rfl ?_
        refine lv_ladd hx hb dX0_plus_34 ?_
        refine lv_ladd hx hb dX0_plus_35 ?_
        refine lv_lstore_n (lv' := [(2, .long (x2 + (((a_B_limbs (x4.toNatClampNeg)).toInt64) + ((a_p1_limbs (x4.toNatClampNeg)).toInt64)))), (0, .ref q_B), (1, .ref q_p1), (4, .int x4)]) hx hb dX0_plus_36 rfl hl (by decide) rfl (fun ls hl => ?_)
        refine lv_aload_n hx hb dX0_plus_37 rfl (lv_at hl 1 rfl) ?_
        refine zget (C := RX0) (T := TX0) (N := 1) S hK hP 0 rfl rfl 0 (Nat.le_of_ble_eq_true rfl) zf_0 zw_75 rfl dX0_plus_38 ?_
        refine lv_iload hx hb dX0_plus_41 (lv_at hl 3 rfl) ?_
        refine lv_lload_n hx hb dX0_plus_43 rfl (lv_at hl 0 rfl) ?_
        refine lv_ldc2 (v := 1073741823) hx hb S.2.2.2.1 (ht _ zw_898) dX0_plus_44 ?_
        refine lv_land hx hb dX0_plus_47 ?_
        refine lv_l2i hx hb dX0_plus_48 rfl ?_
        obtain ⟨h3, hg⟩ := zck hg
        refine ziast hx hb hK hP hD hS 1 0 rfl rfl (j := (x4.toNatClampNeg)) h3 rfl dX0_plus_49 (w2 := (ws_X0_plus cI cJ cZ cA q_B q_p1 q_B_limbs q_p1_limbs (upd a_B_limbs (x4.toNatClampNeg) (((x2 + (((a_B_limbs (x4.toNatClampNeg)).toInt64) + ((a_p1_limbs (x4.toNatClampNeg)).toInt64))) &&& (1073741823 : Int64)).toInt32)) a_p1_limbs)) rfl (fun H locs hP hD hS => ?_)
        refine lv_lload_n hx hb dX0_plus_50 rfl (lv_at hl 0 rfl) ?_
        refine lv_bipush (v := 30) hx hb dX0_plus_51 (by decide) ?_
        refine lv_lshr hx hb dX0_plus_53 rfl ?_
        refine lv_lstore_n (lv' := [(2, .long ((x2 + (((a_B_limbs (x4.toNatClampNeg)).toInt64) + ((a_p1_limbs (x4.toNatClampNeg)).toInt64))) >>> ((30 : Int32).toInt64 &&& 63))), (0, .ref q_B), (1, .ref q_p1), (4, .int x4)]) hx hb dX0_plus_54 rfl hl (by decide) rfl (fun ls hl => ?_)
        refine lv_iinc (k := 3) (v := x4 + 1) (lv' := [(4, .int (x4 + 1)), (2, .long ((x2 + (((a_B_limbs (x4.toNatClampNeg)).toInt64) + ((a_p1_limbs (x4.toNatClampNeg)).toInt64))) >>> ((30 : Int32).toInt64 &&& 63))), (0, .ref q_B), (1, .ref q_p1)]) hx hb dX0_plus_55 hl rfl (zinc (by decide)) (by decide) rfl (fun ls hl => ?_)
        refine lv_goto (tgt := 10) hx hb dX0_plus_58 (by decide) ?_
        exact ih ((x2 + (((a_B_limbs (x4.toNatClampNeg)).toInt64) + ((a_p1_limbs (x4.toNatClampNeg)).toInt64))) >>> ((30 : Int32).toInt64 &&& 63)) (x4 + 1) (upd a_B_limbs (x4.toNatClampNeg) (((x2 + (((a_B_limbs (x4.toNatClampNeg)).toInt64) + ((a_p1_limbs (x4.toNatClampNeg)).toInt64))) &&& (1073741823 : Int64)).toInt32)) _ _ _ (lv_sub hl [2, 3, 1, 0] rfl) hP hD hS hg
  refine lv_aload_n hx hb dX0_plus_0 rfl (lv_at hl 1 rfl) ?_
  refine lv_ifnonnull (tgt := 5) hx hb dX0_plus_1 (by decide) ?_
  refine lv_lconst (v := 0) hx hb dX0_plus_5 (by decide) ?_
  refine lv_lstore_n (lv' := [(2, .long (0 : Int64)), (0, .ref q_B), (1, .ref q_p1)]) hx hb dX0_plus_6 rfl hl (by decide) rfl (fun ls hl => ?_)
  refine lv_iconst (v := 0) hx hb dX0_plus_7 (by decide) ?_
  refine lv_istore (lv' := [(4, .int 0), (2, .long (0 : Int64)), (0, .ref q_B), (1, .ref q_p1)]) hx hb dX0_plus_8 hl (by decide) rfl (fun ls hl => ?_)
  exact B10 zF (0 : Int64) 0 a_B_limbs _ _ _ (lv_sub hl [2, 3, 1, 0] rfl) hP hD hS hg

/-! SpokenClock$Big.times(I)V -/
abbrev ws_X0_times (cI cJ cZ cA : ClassId) (q_B q_B_limbs : Nat) (a_B_limbs : Nat → Int32) : va_W := [(q_B, .inr (0, [.ref q_B_limbs])), (q_B_limbs, .inl (cI, 8, .inl a_B_limbs))]
abbrev rm_X0_times : Room := { frames := 0, cells := 0, slots := 0, locals := 0 }
def g_X0_times_5b (x1 : Int32) (k5 : Int64 → Int32 → (Nat → Int32) → Option ((Nat → Int32))) (x2 : Int64) (x4 : Int32) (a_B_limbs : Nat → Int32) : Option ((Nat → Int32)) :=
  if 8 ≤ x4 then (
    some (a_B_limbs)
  ) else (
    if x4 < 0 ∨ 8 ≤ x4.toNatClampNeg then none else
    if x4 < 0 ∨ 8 ≤ x4.toNatClampNeg then none else
    k5 ((x2 + (((a_B_limbs (x4.toNatClampNeg)).toInt64) * x1.toInt64)) >>> ((30 : Int32).toInt64 &&& 63)) (x4 + 1) (upd a_B_limbs (x4.toNatClampNeg) (((x2 + (((a_B_limbs (x4.toNatClampNeg)).toInt64) * x1.toInt64)) &&& (1073741823 : Int64)).toInt32))
  )
def g_X0_times_5 (x1 : Int32) : Nat → Int64 → Int32 → (Nat → Int32) → Option ((Nat → Int32))
  | 0, _, _, _ => none
  | n + 1, x2, x4, a_B_limbs => g_X0_times_5b x1 (g_X0_times_5 x1 n) x2 x4 a_B_limbs
def g_X0_times (x1 : Int32) (a_B_limbs : Nat → Int32) : Option ((Nat → Int32)) :=
  g_X0_times_5 x1 zF (0 : Int64) 0 a_B_limbs
theorem hd_X0_times : yX0_times.cls = RX0 ∧ yX0_times.cls ≠ "java/lang/invoke/MethodHandle" ∧ yX0_times.cls ≠ "java/lang/invoke/VarHandle" ∧ (parseMethodDescriptor yX0_times.desc).map (fun d => d.parameters.length) = some 1 := by decide +kernel
set_option maxHeartbeats 4000000 in
set_option maxRecDepth 100000 in
theorem c_X0_times (l : Launch) (D : va_G) (cI cJ cZ cA : ClassId) (ga : Nat → Nat) (q_B q_B_limbs : Nat) (a_B_limbs : Nat → Int32) (x1 : Int32) (o : (Nat → Int32)) (hg : g_X0_times x1 a_B_limbs = some o) : zM l yX0_times (Cond.code yX0_times cX0_times 5 none :: wsL_law) rm_X0_times D (zTy cI cJ cZ cA) ga [.ref q_B, .int x1] (ws_X0_times cI cJ cZ cA q_B q_B_limbs a_B_limbs) (ws_X0_times cI cJ cZ cA q_B q_B_limbs o) none := by
  refine zenterV (own := RX0) (by decide) rfl rfl (Nat.le_of_ble_eq_true rfl) ?_
  intro p e s m args below meth c A ls Q S hA hK hG hl hP hD hS hret0
  have hx := S.1
  have hb := S.2.1
  have ht : ∀ w, w ∈ wsL_law → w.before args s = true := fun w h => S.2.2.2.2 w (List.mem_cons_of_mem _ h)
  have hret : ∀ (a_B_limbs : Nat → Int32), (some (a_B_limbs) : Option ((Nat → Int32))) = some o → ∀ (H : Heap) (locs : List Loc) (pc : Nat) (ls : Array Slot), va_P D vwCl (ws_X0_times cI cJ cZ cA q_B q_B_limbs a_B_limbs) H → va_S A s.heap H locs → decode cX0_times pc = .ok (.return_, 1) → W p l e rm_X0_times s m args below meth c H locs 0 0 Q (F0 m pc ls []) := by
    intro a_B_limbs he; cases he; exact hret0
  have hl : lv_has ls 5 [(0, .ref q_B), (1, .int x1)] := hl
  have B5 : ∀  (n : Nat) (x2 : Int64) (x4 : Int32) (a_B_limbs : Nat → Int32) (H : Heap) (locs : List Loc) (ls : Array Slot) (hl : lv_has ls 5 [(0, .ref q_B), (1, .int x1), (2, .long x2), (4, .int x4)]) (hP : va_P D vwCl (ws_X0_times cI cJ cZ cA q_B q_B_limbs a_B_limbs) H) (hD : va_D A (ws_X0_times cI cJ cZ cA q_B q_B_limbs a_B_limbs)) (hS : va_S A s.heap H locs), g_X0_times_5 x1 n x2 x4 a_B_limbs = some o → W p l e rm_X0_times s m args below meth c H locs 0 0 Q (F0 m 5 ls []) := by
    intro  n
    induction n with
    | zero => intro x2 x4 a_B_limbs H locs ls hl hP hD hS hg; exact nomatch (show (none : Option ((Nat → Int32))) = some o from hg)
    | succ n ih =>
      intro x2 x4 a_B_limbs H locs ls hl hP hD hS hg
      have hg : g_X0_times_5b x1 (g_X0_times_5 x1 n) x2 x4 a_B_limbs = some o := hg
      refine lv_iload hx hb dX0_times_5 (lv_at hl 3 rfl) ?_
      refine lv_bipush (v := 8) hx hb dX0_times_7 (by decide) ?_
      refine lv_icmp_ge (tgt := 50) hx hb dX0_times_9 (by decide) (fun h9 => ?_) (fun h9 => ?_)
      · have hg := zp hg h9
        exact hret a_B_limbs hg _ _ _ _ hP hS dX0_times_50
      · have hg := zn hg h9
        refine lv_lload_n hx hb dX0_times_12 rfl (lv_at hl 2 rfl) ?_
        refine lv_aload_n hx hb dX0_times_13 rfl (lv_at hl 0 rfl) ?_
        refine zget (C := RX0) (T := TX0) (N := 1) S hK hP 0 rfl rfl 0 (Nat.le_of_ble_eq_true rfl) zf_0 zw_75 rfl dX0_times_14 ?_
        refine lv_iload hx hb dX0_times_17 (lv_at hl 3 rfl) ?_
        obtain ⟨h1, hg⟩ := zck hg
        refine ziald hx hb hK hP 1 0 rfl rfl (j := (x4.toNatClampNeg)) h1 rfl dX0_times_19 ?_
        refine lv_i2l hx hb dX0_times_20 rfl ?_
        refine lv_iload_n hx hb dX0_times_21 rfl (lv_at hl 1 rfl) ?_
        refine lv_i2l hx hb dX0_times_22 rfl ?_
        refine lv_lmul hx hb dX0_times_23 ?_
        refine lv_ladd hx hb dX0_times_24 ?_
        refine lv_lstore_n (lv' := [(2, .long (x2 + (((a_B_limbs (x4.toNatClampNeg)).toInt64) * x1.toInt64))), (0, .ref q_B), (1, .int x1), (4, .int x4)]) hx hb dX0_times_25 rfl hl (by decide) rfl (fun ls hl => ?_)
        refine lv_aload_n hx hb dX0_times_26 rfl (lv_at hl 1 rfl) ?_
        refine zget (C := RX0) (T := TX0) (N := 1) S hK hP 0 rfl rfl 0 (Nat.le_of_ble_eq_true rfl) zf_0 zw_75 rfl dX0_times_27 ?_
        refine lv_iload hx hb dX0_times_30 (lv_at hl 3 rfl) ?_
        refine lv_lload_n hx hb dX0_times_32 rfl (lv_at hl 0 rfl) ?_
        refine lv_ldc2 (v := 1073741823) hx hb S.2.2.2.1 (ht _ zw_898) dX0_times_33 ?_
        refine lv_land hx hb dX0_times_36 ?_
        refine lv_l2i hx hb dX0_times_37 rfl ?_
        obtain ⟨h2, hg⟩ := zck hg
        refine ziast hx hb hK hP hD hS 1 0 rfl rfl (j := (x4.toNatClampNeg)) h2 rfl dX0_times_38 (w2 := (ws_X0_times cI cJ cZ cA q_B q_B_limbs (upd a_B_limbs (x4.toNatClampNeg) (((x2 + (((a_B_limbs (x4.toNatClampNeg)).toInt64) * x1.toInt64)) &&& (1073741823 : Int64)).toInt32)))) rfl (fun H locs hP hD hS => ?_)
        refine lv_lload_n hx hb dX0_times_39 rfl (lv_at hl 0 rfl) ?_
        refine lv_bipush (v := 30) hx hb dX0_times_40 (by decide) ?_
        refine lv_lshr hx hb dX0_times_42 rfl ?_
        refine lv_lstore_n (lv' := [(2, .long ((x2 + (((a_B_limbs (x4.toNatClampNeg)).toInt64) * x1.toInt64)) >>> ((30 : Int32).toInt64 &&& 63))), (0, .ref q_B), (1, .int x1), (4, .int x4)]) hx hb dX0_times_43 rfl hl (by decide) rfl (fun ls hl => ?_)
        refine lv_iinc (k := 3) (v := x4 + 1) (lv' := [(4, .int (x4 + 1)), (2, .long ((x2 + (((a_B_limbs (x4.toNatClampNeg)).toInt64) * x1.toInt64)) >>> ((30 : Int32).toInt64 &&& 63))), (0, .ref q_B), (1, .int x1)]) hx hb dX0_times_44 hl rfl (zinc (by decide)) (by decide) rfl (fun ls hl => ?_)
        refine lv_goto (tgt := 5) hx hb dX0_times_47 (by decide) ?_
        exact ih ((x2 + (((a_B_limbs (x4.toNatClampNeg)).toInt64) * x1.toInt64)) >>> ((30 : Int32).toInt64 &&& 63)) (x4 + 1) (upd a_B_limbs (x4.toNatClampNeg) (((x2 + (((a_B_limbs (x4.toNatClampNeg)).toInt64) * x1.toInt64)) &&& (1073741823 : Int64)).toInt32)) _ _ _ (lv_sub hl [2, 3, 1, 0] rfl) hP hD hS hg
  refine lv_lconst (v := 0) hx hb dX0_times_0 (by decide) ?_
  refine lv_lstore_n (lv' := [(2, .long (0 : Int64)), (0, .ref q_B), (1, .int x1)]) hx hb dX0_times_1 rfl hl (by decide) rfl (fun ls hl => ?_)
  refine lv_iconst (v := 0) hx hb dX0_times_2 (by decide) ?_
  refine lv_istore (lv' := [(4, .int 0), (2, .long (0 : Int64)), (0, .ref q_B), (1, .int x1)]) hx hb dX0_times_3 hl (by decide) rfl (fun ls hl => ?_)
  exact B5 zF (0 : Int64) 0 a_B_limbs _ _ _ (lv_sub hl [2, 3, 1, 0] rfl) hP hD hS hg

/-! SpokenClock$Big.isDivided(I)Z -/
abbrev ws_X0_isDivided (cI cJ cZ cA : ClassId) (q_B q_B_limbs : Nat) (a_B_limbs : Nat → Int32) : va_W := [(q_B, .inr (0, [.ref q_B_limbs])), (q_B_limbs, .inl (cI, 8, .inl a_B_limbs))]
abbrev rm_X0_isDivided : Room := { frames := 0, cells := 0, slots := 0, locals := 0 }
def g_X0_isDivided_38 (a_B_limbs : Nat → Int32) (x1 : Int32) (x2 : Int64) : Option (Int32) :=
  if (lg_cmp x2 (0 : Int64)) = 0 then (
    some (1)
  ) else (
    some (0)
  )
def g_X0_isDivided_6b (a_B_limbs : Nat → Int32) (x1 : Int32) (k6 : Int64 → Int32 → Option (Int32)) (x2 : Int64) (x4 : Int32) : Option (Int32) :=
  if x4 < 0 then (
    g_X0_isDivided_38 a_B_limbs x1 x2
  ) else (
    if x1 ≤ 0 then (
      g_X0_isDivided_38 a_B_limbs x1 x2
    ) else (
      if x4 < 0 ∨ 8 ≤ x4.toNatClampNeg then none else
      if x1.toInt64 = 0 then none else
      k6 (((x2 <<< ((30 : Int32).toInt64 &&& 63)) ||| ((a_B_limbs (x4.toNatClampNeg)).toInt64)) - ((x2 <<< ((30 : Int32).toInt64 &&& 63)) ||| ((a_B_limbs (x4.toNatClampNeg)).toInt64)) / x1.toInt64 * x1.toInt64) (x4 + (-1))
    )
  )
def g_X0_isDivided_6 (a_B_limbs : Nat → Int32) (x1 : Int32) : Nat → Int64 → Int32 → Option (Int32)
  | 0, _, _ => none
  | n + 1, x2, x4 => g_X0_isDivided_6b a_B_limbs x1 (g_X0_isDivided_6 a_B_limbs x1 n) x2 x4
def g_X0_isDivided (a_B_limbs : Nat → Int32) (x1 : Int32) : Option (Int32) :=
  g_X0_isDivided_6 a_B_limbs x1 zF (0 : Int64) 7
theorem hd_X0_isDivided : yX0_isDivided.cls = RX0 ∧ yX0_isDivided.cls ≠ "java/lang/invoke/MethodHandle" ∧ yX0_isDivided.cls ≠ "java/lang/invoke/VarHandle" ∧ (parseMethodDescriptor yX0_isDivided.desc).map (fun d => d.parameters.length) = some 1 := by decide +kernel
set_option maxHeartbeats 4000000 in
set_option maxRecDepth 100000 in
theorem c_X0_isDivided (l : Launch) (D : va_G) (cI cJ cZ cA : ClassId) (ga : Nat → Nat) (q_B q_B_limbs : Nat) (a_B_limbs : Nat → Int32) (x1 : Int32) (o : Int32) (hg : g_X0_isDivided a_B_limbs x1 = some o) : zM l yX0_isDivided (Cond.code yX0_isDivided cX0_isDivided 5 (some .boolean) :: wsL_law) rm_X0_isDivided D (zTy cI cJ cZ cA) ga [.ref q_B, .int x1] (ws_X0_isDivided cI cJ cZ cA q_B q_B_limbs a_B_limbs) (ws_X0_isDivided cI cJ cZ cA q_B q_B_limbs a_B_limbs) (some (.int o)) := by
  refine zenterN (own := RX0) (by decide) rfl rfl (Nat.le_of_ble_eq_true rfl) ?_
  intro p e s m args below meth c A ls Q S hA hK hG hl hP hD hS hret0
  have hx := S.1
  have hb := S.2.1
  have ht : ∀ w, w ∈ wsL_law → w.before args s = true := fun w h => S.2.2.2.2 w (List.mem_cons_of_mem _ h)
  have hret : ∀ (r9 : Int32), (some (r9) : Option (Int32)) = some o → narrow .boolean (.int r9) = .int r9 → ∀ (H : Heap) (locs : List Loc) (pc : Nat) (ls : Array Slot), va_P D vwCl (ws_X0_isDivided cI cJ cZ cA q_B q_B_limbs a_B_limbs) H → va_S A s.heap H locs → decode cX0_isDivided pc = .ok (.ireturn, 1) → W p l e rm_X0_isDivided s m args below meth c H locs 0 0 Q (F0 m pc ls [.int r9]) := by
    intro r9 he; cases he; exact hret0
  have hl : lv_has ls 5 [(0, .ref q_B), (1, .int x1)] := hl
  have B38 : ∀ (x2 : Int64) (H : Heap) (locs : List Loc) (ls : Array Slot) (hl : lv_has ls 5 [(2, .long x2)]) (hP : va_P D vwCl (ws_X0_isDivided cI cJ cZ cA q_B q_B_limbs a_B_limbs) H) (hD : va_D A (ws_X0_isDivided cI cJ cZ cA q_B q_B_limbs a_B_limbs)) (hS : va_S A s.heap H locs), g_X0_isDivided_38 a_B_limbs x1 x2 = some o → W p l e rm_X0_isDivided s m args below meth c H locs 0 0 Q (F0 m 38 ls []) := by
    intro  x2 H locs ls hl hP hD hS hg
    refine lv_lload_n hx hb dX0_isDivided_38 rfl (lv_at hl 0 rfl) ?_
    refine lv_lconst (v := 0) hx hb dX0_isDivided_39 (by decide) ?_
    refine W.lcmp hx hb dX0_isDivided_40 ?_
    refine lv_if_ne (tgt := 48) hx hb dX0_isDivided_41 (by decide) (fun h41 => ?_) (fun h41 => ?_)
    · have hg := zn hg h41
      refine lv_iconst (v := 0) hx hb dX0_isDivided_48 (by decide) ?_
      exact hret 0 hg (zb01 (Or.inl rfl)) _ _ _ _ hP hS dX0_isDivided_49
    · have hg := zp hg h41
      refine lv_iconst (v := 1) hx hb dX0_isDivided_44 (by decide) ?_
      refine lv_goto (tgt := 49) hx hb dX0_isDivided_45 (by decide) ?_
      exact hret 1 hg (zb01 (Or.inr rfl)) _ _ _ _ hP hS dX0_isDivided_49
  have B6 : ∀  (n : Nat) (x2 : Int64) (x4 : Int32) (H : Heap) (locs : List Loc) (ls : Array Slot) (hl : lv_has ls 5 [(0, .ref q_B), (1, .int x1), (2, .long x2), (4, .int x4)]) (hP : va_P D vwCl (ws_X0_isDivided cI cJ cZ cA q_B q_B_limbs a_B_limbs) H) (hD : va_D A (ws_X0_isDivided cI cJ cZ cA q_B q_B_limbs a_B_limbs)) (hS : va_S A s.heap H locs), g_X0_isDivided_6 a_B_limbs x1 n x2 x4 = some o → W p l e rm_X0_isDivided s m args below meth c H locs 0 0 Q (F0 m 6 ls []) := by
    intro  n
    induction n with
    | zero => intro x2 x4 H locs ls hl hP hD hS hg; exact nomatch (show (none : Option (Int32)) = some o from hg)
    | succ n ih =>
      intro x2 x4 H locs ls hl hP hD hS hg
      have hg : g_X0_isDivided_6b a_B_limbs x1 (g_X0_isDivided_6 a_B_limbs x1 n) x2 x4 = some o := hg
      refine lv_iload hx hb dX0_isDivided_6 (lv_at hl 3 rfl) ?_
      refine lv_if_lt (tgt := 38) hx hb dX0_isDivided_8 (by decide) (fun h8 => ?_) (fun h8 => ?_)
      · have hg := zp hg h8
        exact B38 x2 _ _ _ (lv_sub hl [2] rfl) hP hD hS hg
      · have hg := zn hg h8
        refine lv_iload_n hx hb dX0_isDivided_11 rfl (lv_at hl 1 rfl) ?_
        refine lv_if_le (tgt := 38) hx hb dX0_isDivided_12 (by decide) (fun h12 => ?_) (fun h12 => ?_)
        · have hg := zp hg h12
          exact B38 x2 _ _ _ (lv_sub hl [2] rfl) hP hD hS hg
        · have hg := zn hg h12
          refine lv_lload_n hx hb dX0_isDivided_15 rfl (lv_at hl 2 rfl) ?_
          refine lv_bipush (v := 30) hx hb dX0_isDivided_16 (by decide) ?_
          refine lv_lshl hx hb dX0_isDivided_18 rfl ?_
          refine lv_aload_n hx hb dX0_isDivided_19 rfl (lv_at hl 0 rfl) ?_
          refine zget (C := RX0) (T := TX0) (N := 1) S hK hP 0 rfl rfl 0 (Nat.le_of_ble_eq_true rfl) zf_0 zw_75 rfl dX0_isDivided_20 ?_
          refine lv_iload hx hb dX0_isDivided_23 (lv_at hl 3 rfl) ?_
          obtain ⟨h1, hg⟩ := zck hg
          refine ziald hx hb hK hP 1 0 rfl rfl (j := (x4.toNatClampNeg)) h1 rfl dX0_isDivided_25 ?_
          refine lv_i2l hx hb dX0_isDivided_26 rfl ?_
          refine lv_lor hx hb dX0_isDivided_27 ?_
          refine lv_iload_n hx hb dX0_isDivided_28 rfl (lv_at hl 1 rfl) ?_
          refine lv_i2l hx hb dX0_isDivided_29 rfl ?_
          obtain ⟨h2, hg⟩ := zck hg
          refine lv_lrem hx hb dX0_isDivided_30 h2 ?_
          refine lv_lstore_n (lv' := [(2, .long (((x2 <<< ((30 : Int32).toInt64 &&& 63)) ||| ((a_B_limbs (x4.toNatClampNeg)).toInt64)) - ((x2 <<< ((30 : Int32).toInt64 &&& 63)) ||| ((a_B_limbs (x4.toNatClampNeg)).toInt64)) / x1.toInt64 * x1.toInt64)), (0, .ref q_B), (1, .int x1), (4, .int x4)]) hx hb dX0_isDivided_31 rfl hl (by decide) rfl (fun ls hl => ?_)
          refine lv_iinc (k := 3) (v := x4 + (-1)) (lv' := [(4, .int (x4 + (-1))), (2, .long (((x2 <<< ((30 : Int32).toInt64 &&& 63)) ||| ((a_B_limbs (x4.toNatClampNeg)).toInt64)) - ((x2 <<< ((30 : Int32).toInt64 &&& 63)) ||| ((a_B_limbs (x4.toNatClampNeg)).toInt64)) / x1.toInt64 * x1.toInt64)), (0, .ref q_B), (1, .int x1)]) hx hb dX0_isDivided_32 hl rfl (zinc (by decide)) (by decide) rfl (fun ls hl => ?_)
          refine lv_goto (tgt := 6) hx hb dX0_isDivided_35 (by decide) ?_
          exact ih (((x2 <<< ((30 : Int32).toInt64 &&& 63)) ||| ((a_B_limbs (x4.toNatClampNeg)).toInt64)) - ((x2 <<< ((30 : Int32).toInt64 &&& 63)) ||| ((a_B_limbs (x4.toNatClampNeg)).toInt64)) / x1.toInt64 * x1.toInt64) (x4 + (-1)) _ _ _ (lv_sub hl [2, 3, 1, 0] rfl) hP hD hS hg
  refine lv_lconst (v := 0) hx hb dX0_isDivided_0 (by decide) ?_
  refine lv_lstore_n (lv' := [(2, .long (0 : Int64)), (0, .ref q_B), (1, .int x1)]) hx hb dX0_isDivided_1 rfl hl (by decide) rfl (fun ls hl => ?_)
  refine lv_bipush (v := 7) hx hb dX0_isDivided_2 (by decide) ?_
  refine lv_istore (lv' := [(4, .int 7), (2, .long (0 : Int64)), (0, .ref q_B), (1, .int x1)]) hx hb dX0_isDivided_4 hl (by decide) rfl (fun ls hl => ?_)
  exact B6 zF (0 : Int64) 7 _ _ _ (lv_sub hl [2, 3, 1, 0] rfl) hP hD hS hg

/-! SpokenClock$Fraction.reduce(II)V -/
abbrev ws_X2_reduce (cI cJ cZ cA : ClassId) (q_X_fraction q_X_fraction_above q_X_fraction_above_limbs q_X_fraction_below q_X_fraction_below_limbs : Nat) (u_X_fraction_term : Value) (a_X_fraction_above_limbs : Nat → Int32) (a_X_fraction_below_limbs : Nat → Int32) : va_W := [(q_X_fraction, .inr (2, [.ref q_X_fraction_above, .ref q_X_fraction_below, u_X_fraction_term])), (q_X_fraction_above, .inr (0, [.ref q_X_fraction_above_limbs])), (q_X_fraction_above_limbs, .inl (cI, 8, .inl a_X_fraction_above_limbs)), (q_X_fraction_below, .inr (0, [.ref q_X_fraction_below_limbs])), (q_X_fraction_below_limbs, .inl (cI, 8, .inl a_X_fraction_below_limbs))]
abbrev rm_X2_reduce : Room := { frames := 1, cells := 0, slots := 0, locals := 26 }
def g_X2_reduce_2b (x1 : Int32) (x2 : Int32) (k2 : Int32 → (Nat → Int32) → (Nat → Int32) → Option ((Nat → Int32) × (Nat → Int32))) (x3 : Int32) (a_X_fraction_above_limbs : Nat → Int32) (a_X_fraction_below_limbs : Nat → Int32) : Option ((Nat → Int32) × (Nat → Int32)) :=
  if x2 ≤ x3 then (
    some (a_X_fraction_above_limbs, a_X_fraction_below_limbs)
  ) else (
    (g_X0_isDivided a_X_fraction_above_limbs x1).bind fun v1 =>
    if v1 = 0 then (
      some (a_X_fraction_above_limbs, a_X_fraction_below_limbs)
    ) else (
      (g_X0_isDivided a_X_fraction_below_limbs x1).bind fun v3 =>
      if v3 = 0 then (
        some (a_X_fraction_above_limbs, a_X_fraction_below_limbs)
      ) else (
        (g_X0_divide x1 a_X_fraction_above_limbs).bind fun v5 =>
        (g_X0_divide x1 a_X_fraction_below_limbs).bind fun v7 =>
        k2 (x3 + 1) v5 v7
      )
    )
  )
def g_X2_reduce_2 (x1 : Int32) (x2 : Int32) : Nat → Int32 → (Nat → Int32) → (Nat → Int32) → Option ((Nat → Int32) × (Nat → Int32))
  | 0, _, _, _ => none
  | n + 1, x3, a_X_fraction_above_limbs, a_X_fraction_below_limbs => g_X2_reduce_2b x1 x2 (g_X2_reduce_2 x1 x2 n) x3 a_X_fraction_above_limbs a_X_fraction_below_limbs
def g_X2_reduce (x1 : Int32) (x2 : Int32) (a_X_fraction_above_limbs : Nat → Int32) (a_X_fraction_below_limbs : Nat → Int32) : Option ((Nat → Int32) × (Nat → Int32)) :=
  g_X2_reduce_2 x1 x2 zF 0 a_X_fraction_above_limbs a_X_fraction_below_limbs
theorem hd_X2_reduce : yX2_reduce.cls = RX2 ∧ yX2_reduce.cls ≠ "java/lang/invoke/MethodHandle" ∧ yX2_reduce.cls ≠ "java/lang/invoke/VarHandle" ∧ (parseMethodDescriptor yX2_reduce.desc).map (fun d => d.parameters.length) = some 2 := by decide +kernel
set_option maxHeartbeats 4000000 in
set_option maxRecDepth 100000 in
theorem c_X2_reduce (l : Launch) (D : va_G) (cI cJ cZ cA : ClassId) (ga : Nat → Nat) (q_X_fraction q_X_fraction_above q_X_fraction_above_limbs q_X_fraction_below q_X_fraction_below_limbs : Nat) (u_X_fraction_term : Value) (a_X_fraction_above_limbs : Nat → Int32) (a_X_fraction_below_limbs : Nat → Int32) (x1 : Int32) (x2 : Int32) (o : (Nat → Int32) × (Nat → Int32)) (hg : g_X2_reduce x1 x2 a_X_fraction_above_limbs a_X_fraction_below_limbs = some o) : zM l yX2_reduce (Cond.code yX2_reduce cX2_reduce 4 none :: wsL_law) rm_X2_reduce D (zTy cI cJ cZ cA) ga [.ref q_X_fraction, .int x1, .int x2] (ws_X2_reduce cI cJ cZ cA q_X_fraction q_X_fraction_above q_X_fraction_above_limbs q_X_fraction_below q_X_fraction_below_limbs u_X_fraction_term a_X_fraction_above_limbs a_X_fraction_below_limbs) (ws_X2_reduce cI cJ cZ cA q_X_fraction q_X_fraction_above q_X_fraction_above_limbs q_X_fraction_below q_X_fraction_below_limbs u_X_fraction_term o.1 o.2) none := by
  refine zenterV (own := RX2) (by decide) rfl rfl (Nat.le_of_ble_eq_true rfl) ?_
  intro p e s m args below meth c A ls Q S hA hK hG hl hP hD hS hret0
  have hx := S.1
  have hb := S.2.1
  have ht : ∀ w, w ∈ wsL_law → w.before args s = true := fun w h => S.2.2.2.2 w (List.mem_cons_of_mem _ h)
  have hret : ∀ (a_X_fraction_above_limbs : Nat → Int32) (a_X_fraction_below_limbs : Nat → Int32), (some (a_X_fraction_above_limbs, a_X_fraction_below_limbs) : Option ((Nat → Int32) × (Nat → Int32))) = some o → ∀ (H : Heap) (locs : List Loc) (pc : Nat) (ls : Array Slot), va_P D vwCl (ws_X2_reduce cI cJ cZ cA q_X_fraction q_X_fraction_above q_X_fraction_above_limbs q_X_fraction_below q_X_fraction_below_limbs u_X_fraction_term a_X_fraction_above_limbs a_X_fraction_below_limbs) H → va_S A s.heap H locs → decode cX2_reduce pc = .ok (.return_, 1) → W p l e rm_X2_reduce s m args below meth c H locs 0 0 Q (F0 m pc ls []) := by
    intro a_X_fraction_above_limbs a_X_fraction_below_limbs he; cases he; exact hret0
  have hl : lv_has ls 4 [(0, .ref q_X_fraction), (1, .int x1), (2, .int x2)] := hl
  have B2 : ∀  (n : Nat) (x3 : Int32) (a_X_fraction_above_limbs : Nat → Int32) (a_X_fraction_below_limbs : Nat → Int32) (H : Heap) (locs : List Loc) (ls : Array Slot) (hl : lv_has ls 4 [(0, .ref q_X_fraction), (1, .int x1), (2, .int x2), (3, .int x3)]) (hP : va_P D vwCl (ws_X2_reduce cI cJ cZ cA q_X_fraction q_X_fraction_above q_X_fraction_above_limbs q_X_fraction_below q_X_fraction_below_limbs u_X_fraction_term a_X_fraction_above_limbs a_X_fraction_below_limbs) H) (hD : va_D A (ws_X2_reduce cI cJ cZ cA q_X_fraction q_X_fraction_above q_X_fraction_above_limbs q_X_fraction_below q_X_fraction_below_limbs u_X_fraction_term a_X_fraction_above_limbs a_X_fraction_below_limbs)) (hS : va_S A s.heap H locs), g_X2_reduce_2 x1 x2 n x3 a_X_fraction_above_limbs a_X_fraction_below_limbs = some o → W p l e rm_X2_reduce s m args below meth c H locs 0 0 Q (F0 m 2 ls []) := by
    intro  n
    induction n with
    | zero => intro x3 a_X_fraction_above_limbs a_X_fraction_below_limbs H locs ls hl hP hD hS hg; exact nomatch (show (none : Option ((Nat → Int32) × (Nat → Int32))) = some o from hg)
    | succ n ih =>
      intro x3 a_X_fraction_above_limbs a_X_fraction_below_limbs H locs ls hl hP hD hS hg
      have hg : g_X2_reduce_2b x1 x2 (g_X2_reduce_2 x1 x2 n) x3 a_X_fraction_above_limbs a_X_fraction_below_limbs = some o := hg
      refine lv_iload_n hx hb dX2_reduce_2 rfl (lv_at hl 3 rfl) ?_
      refine lv_iload_n hx hb dX2_reduce_3 rfl (lv_at hl 2 rfl) ?_
      refine lv_icmp_ge (tgt := 51) hx hb dX2_reduce_4 (by decide) (fun h4 => ?_) (fun h4 => ?_)
      · have hg := zp hg h4
        exact hret a_X_fraction_above_limbs a_X_fraction_below_limbs hg _ _ _ _ hP hS dX2_reduce_51
      · have hg := zn hg h4
        refine lv_aload_n hx hb dX2_reduce_7 rfl (lv_at hl 0 rfl) ?_
        refine zget (C := RX2) (T := TX2) (N := 3) S hK hP 0 rfl rfl 0 (Nat.le_of_ble_eq_true rfl) zf_2 zw_68 rfl dX2_reduce_8 ?_
        refine lv_iload_n hx hb dX2_reduce_11 rfl (lv_at hl 1 rfl) ?_
        obtain ⟨v1, hc2, hg⟩ := zbd hg
        refine zcallV (rest := []) S (c_X0_isDivided l D cI cJ cZ cA ga q_X_fraction_above q_X_fraction_above_limbs a_X_fraction_above_limbs x1 v1 hc2) (zgV zw_911 zw_912 zw_913 zw_67 zw_914) rfl hd_X0_isDivided ⟨rfl, rfl⟩ ⟨Nat.le_of_ble_eq_true rfl, Nat.le_of_ble_eq_true rfl⟩ 1 0 rfl rfl rfl hl.1 rfl (Nat.le_of_ble_eq_true rfl) dX2_reduce_12 hP hD hS hA hK hG (isC := [1, 2]) rfl (by decide +kernel) rfl ⟨Nat.zero_le _, Nat.zero_le _⟩ (pl := [none, some 0, some 1, none, none]) (nw := 5) rfl (by decide +kernel) (w2 := (ws_X2_reduce cI cJ cZ cA q_X_fraction q_X_fraction_above q_X_fraction_above_limbs q_X_fraction_below q_X_fraction_below_limbs u_X_fraction_term a_X_fraction_above_limbs a_X_fraction_below_limbs)) rfl (st1 := [.int v1]) rfl (fun H locs hP hD hS => ?_)
        refine lv_if_eq (tgt := 51) hx hb dX2_reduce_15 (by decide) (fun h15 => ?_) (fun h15 => ?_)
        · have hg := zp hg h15
          exact hret a_X_fraction_above_limbs a_X_fraction_below_limbs hg _ _ _ _ hP hS dX2_reduce_51
        · have hg := zn hg h15
          refine lv_aload_n hx hb dX2_reduce_18 rfl (lv_at hl 0 rfl) ?_
          refine zget (C := RX2) (T := TX2) (N := 3) S hK hP 0 rfl rfl 1 (Nat.le_of_ble_eq_true rfl) zf_2 zw_69 rfl dX2_reduce_19 ?_
          refine lv_iload_n hx hb dX2_reduce_22 rfl (lv_at hl 1 rfl) ?_
          obtain ⟨v3, hc4, hg⟩ := zbd hg
          refine zcallV (rest := []) S (c_X0_isDivided l D cI cJ cZ cA ga q_X_fraction_below q_X_fraction_below_limbs a_X_fraction_below_limbs x1 v3 hc4) (zgV zw_911 zw_912 zw_913 zw_67 zw_914) rfl hd_X0_isDivided ⟨rfl, rfl⟩ ⟨Nat.le_of_ble_eq_true rfl, Nat.le_of_ble_eq_true rfl⟩ 3 0 rfl rfl rfl hl.1 rfl (Nat.le_of_ble_eq_true rfl) dX2_reduce_23 hP hD hS hA hK hG (isC := [3, 4]) rfl (by decide +kernel) rfl ⟨Nat.zero_le _, Nat.zero_le _⟩ (pl := [none, none, none, some 0, some 1]) (nw := 5) rfl (by decide +kernel) (w2 := (ws_X2_reduce cI cJ cZ cA q_X_fraction q_X_fraction_above q_X_fraction_above_limbs q_X_fraction_below q_X_fraction_below_limbs u_X_fraction_term a_X_fraction_above_limbs a_X_fraction_below_limbs)) rfl (st1 := [.int v3]) rfl (fun H locs hP hD hS => ?_)
          refine lv_if_eq (tgt := 51) hx hb dX2_reduce_26 (by decide) (fun h26 => ?_) (fun h26 => ?_)
          · have hg := zp hg h26
            exact hret a_X_fraction_above_limbs a_X_fraction_below_limbs hg _ _ _ _ hP hS dX2_reduce_51
          · have hg := zn hg h26
            refine lv_aload_n hx hb dX2_reduce_29 rfl (lv_at hl 0 rfl) ?_
            refine zget (C := RX2) (T := TX2) (N := 3) S hK hP 0 rfl rfl 0 (Nat.le_of_ble_eq_true rfl) zf_2 zw_68 rfl dX2_reduce_30 ?_
            refine lv_iload_n hx hb dX2_reduce_33 rfl (lv_at hl 1 rfl) ?_
            obtain ⟨v5, hc6, hg⟩ := zbd hg
            refine zcallV (rest := []) S (c_X0_divide l D cI cJ cZ cA ga q_X_fraction_above q_X_fraction_above_limbs a_X_fraction_above_limbs x1 v5 hc6) (zgV zw_903 zw_904 zw_905 zw_67 zw_906) rfl hd_X0_divide ⟨rfl, rfl⟩ ⟨Nat.le_of_ble_eq_true rfl, Nat.le_of_ble_eq_true rfl⟩ 1 0 rfl rfl rfl hl.1 rfl (Nat.le_of_ble_eq_true rfl) dX2_reduce_34 hP hD hS hA hK hG (isC := [1, 2]) rfl (by decide +kernel) rfl ⟨Nat.zero_le _, Nat.zero_le _⟩ (pl := [none, some 0, some 1, none, none]) (nw := 5) rfl (by decide +kernel) (w2 := (ws_X2_reduce cI cJ cZ cA q_X_fraction q_X_fraction_above q_X_fraction_above_limbs q_X_fraction_below q_X_fraction_below_limbs u_X_fraction_term v5 a_X_fraction_below_limbs)) rfl (st1 := []) rfl (fun H locs hP hD hS => ?_)
            refine lv_aload_n hx hb dX2_reduce_37 rfl (lv_at hl 0 rfl) ?_
            refine zget (C := RX2) (T := TX2) (N := 3) S hK hP 0 rfl rfl 1 (Nat.le_of_ble_eq_true rfl) zf_2 zw_69 rfl dX2_reduce_38 ?_
            refine lv_iload_n hx hb dX2_reduce_41 rfl (lv_at hl 1 rfl) ?_
            obtain ⟨v7, hc8, hg⟩ := zbd hg
            refine zcallV (rest := []) S (c_X0_divide l D cI cJ cZ cA ga q_X_fraction_below q_X_fraction_below_limbs a_X_fraction_below_limbs x1 v7 hc8) (zgV zw_903 zw_904 zw_905 zw_67 zw_906) rfl hd_X0_divide ⟨rfl, rfl⟩ ⟨Nat.le_of_ble_eq_true rfl, Nat.le_of_ble_eq_true rfl⟩ 3 0 rfl rfl rfl hl.1 rfl (Nat.le_of_ble_eq_true rfl) dX2_reduce_42 hP hD hS hA hK hG (isC := [3, 4]) rfl (by decide +kernel) rfl ⟨Nat.zero_le _, Nat.zero_le _⟩ (pl := [none, none, none, some 0, some 1]) (nw := 5) rfl (by decide +kernel) (w2 := (ws_X2_reduce cI cJ cZ cA q_X_fraction q_X_fraction_above q_X_fraction_above_limbs q_X_fraction_below q_X_fraction_below_limbs u_X_fraction_term v5 v7)) rfl (st1 := []) rfl (fun H locs hP hD hS => ?_)
            refine lv_iinc (k := 3) (v := x3 + 1) (lv' := [(3, .int (x3 + 1)), (0, .ref q_X_fraction), (1, .int x1), (2, .int x2)]) hx hb dX2_reduce_45 hl rfl (zinc (by decide)) (by decide) rfl (fun ls hl => ?_)
            refine lv_goto (tgt := 2) hx hb dX2_reduce_48 (by decide) ?_
            exact ih (x3 + 1) v5 v7 _ _ _ (lv_sub hl [1, 2, 3, 0] rfl) hP hD hS hg
  refine lv_iconst (v := 0) hx hb dX2_reduce_0 (by decide) ?_
  refine lv_istore_n (lv' := [(3, .int 0), (0, .ref q_X_fraction), (1, .int x1), (2, .int x2)]) hx hb dX2_reduce_1 rfl hl (by decide) rfl (fun ls hl => ?_)
  exact B2 zF 0 a_X_fraction_above_limbs a_X_fraction_below_limbs _ _ _ (lv_sub hl [1, 2, 3, 0] rfl) hP hD hS hg

/-! SpokenClock$Fraction.toChance(III)V -/
abbrev ws_X2_toChance (cI cJ cZ cA : ClassId) (q_X_fraction q_X_fraction_above q_X_fraction_above_limbs q_X_fraction_below q_X_fraction_below_limbs q_X_fraction_term q_X_fraction_term_limbs : Nat) (a_X_fraction_above_limbs : Nat → Int32) (a_X_fraction_below_limbs : Nat → Int32) (a_X_fraction_term_limbs : Nat → Int32) : va_W := [(q_X_fraction, .inr (2, [.ref q_X_fraction_above, .ref q_X_fraction_below, .ref q_X_fraction_term])), (q_X_fraction_above, .inr (0, [.ref q_X_fraction_above_limbs])), (q_X_fraction_above_limbs, .inl (cI, 8, .inl a_X_fraction_above_limbs)), (q_X_fraction_below, .inr (0, [.ref q_X_fraction_below_limbs])), (q_X_fraction_below_limbs, .inl (cI, 8, .inl a_X_fraction_below_limbs)), (q_X_fraction_term, .inr (0, [.ref q_X_fraction_term_limbs])), (q_X_fraction_term_limbs, .inl (cI, 8, .inl a_X_fraction_term_limbs))]
abbrev rm_X2_toChance : Room := { frames := 2, cells := 0, slots := 0, locals := 49 }
def g_X2_toChance_113 (x1 : Int32) (x2 : Int32) (x3 : Int32) (k90 : Int32 → Int32 → (Nat → Int32) → (Nat → Int32) → (Nat → Int32) → Option ((Nat → Int32) × (Nat → Int32) × (Nat → Int32))) (x4 : Int32) (x5 : Int32) (a_X_fraction_above_limbs : Nat → Int32) (a_X_fraction_below_limbs : Nat → Int32) (a_X_fraction_term_limbs : Nat → Int32) : Option ((Nat → Int32) × (Nat → Int32) × (Nat → Int32)) :=
  (g_X0_times ((x1 - x5) * x2) a_X_fraction_term_limbs).bind fun v11 =>
  (g_X0_divide ((x5 + 1) * x4) v11).bind fun v13 =>
  k90 x4 (x5 + 1) a_X_fraction_above_limbs a_X_fraction_below_limbs v13
def g_X2_toChance_90b (x1 : Int32) (x2 : Int32) (x3 : Int32) (k90 : Int32 → Int32 → (Nat → Int32) → (Nat → Int32) → (Nat → Int32) → Option ((Nat → Int32) × (Nat → Int32) × (Nat → Int32))) (x4 : Int32) (x5 : Int32) (a_X_fraction_above_limbs : Nat → Int32) (a_X_fraction_below_limbs : Nat → Int32) (a_X_fraction_term_limbs : Nat → Int32) : Option ((Nat → Int32) × (Nat → Int32) × (Nat → Int32)) :=
  if x1 < x5 then (
    (g_X2_reduce 2 x1 a_X_fraction_above_limbs a_X_fraction_below_limbs).bind fun v7 =>
    (g_X2_reduce 5 x1 v7.1 v7.2).bind fun v9 =>
    some (v9.1, v9.2, a_X_fraction_term_limbs)
  ) else (
    if x5 < x3 then (
      g_X2_toChance_113 x1 x2 x3 k90 x4 x5 a_X_fraction_above_limbs a_X_fraction_below_limbs a_X_fraction_term_limbs
    ) else (
      (g_X0_plus a_X_fraction_term_limbs a_X_fraction_above_limbs).bind fun v15 =>
      g_X2_toChance_113 x1 x2 x3 k90 x4 x5 v15 a_X_fraction_below_limbs a_X_fraction_term_limbs
    )
  )
def g_X2_toChance_90 (x1 : Int32) (x2 : Int32) (x3 : Int32) : Nat → Int32 → Int32 → (Nat → Int32) → (Nat → Int32) → (Nat → Int32) → Option ((Nat → Int32) × (Nat → Int32) × (Nat → Int32))
  | 0, _, _, _, _, _ => none
  | n + 1, x4, x5, a_X_fraction_above_limbs, a_X_fraction_below_limbs, a_X_fraction_term_limbs => g_X2_toChance_90b x1 x2 x3 (g_X2_toChance_90 x1 x2 x3 n) x4 x5 a_X_fraction_above_limbs a_X_fraction_below_limbs a_X_fraction_term_limbs
def g_X2_toChance_57b (x1 : Int32) (x2 : Int32) (x3 : Int32) (k57 : Int32 → Int32 → (Nat → Int32) → (Nat → Int32) → (Nat → Int32) → Option ((Nat → Int32) × (Nat → Int32) × (Nat → Int32))) (x4 : Int32) (x5 : Int32) (a_X_fraction_above_limbs : Nat → Int32) (a_X_fraction_below_limbs : Nat → Int32) (a_X_fraction_term_limbs : Nat → Int32) : Option ((Nat → Int32) × (Nat → Int32) × (Nat → Int32)) :=
  if x1 ≤ x5 then (
    g_X2_toChance_90 x1 x2 x3 zF x4 0 a_X_fraction_above_limbs a_X_fraction_below_limbs a_X_fraction_term_limbs
  ) else (
    (g_X0_times 10 a_X_fraction_below_limbs).bind fun v17 =>
    (g_X0_times x4 a_X_fraction_term_limbs).bind fun v19 =>
    k57 x4 (x5 + 1) a_X_fraction_above_limbs v17 v19
  )
def g_X2_toChance_57 (x1 : Int32) (x2 : Int32) (x3 : Int32) : Nat → Int32 → Int32 → (Nat → Int32) → (Nat → Int32) → (Nat → Int32) → Option ((Nat → Int32) × (Nat → Int32) × (Nat → Int32))
  | 0, _, _, _, _, _ => none
  | n + 1, x4, x5, a_X_fraction_above_limbs, a_X_fraction_below_limbs, a_X_fraction_term_limbs => g_X2_toChance_57b x1 x2 x3 (g_X2_toChance_57 x1 x2 x3 n) x4 x5 a_X_fraction_above_limbs a_X_fraction_below_limbs a_X_fraction_term_limbs
def g_X2_toChance_36 (x1 : Int32) (x2 : Int32) (x3 : Int32) (t1 : Int32) (a_X_fraction_above_limbs : Nat → Int32) (a_X_fraction_below_limbs : Nat → Int32) (a_X_fraction_term_limbs : Nat → Int32) : Option ((Nat → Int32) × (Nat → Int32) × (Nat → Int32)) :=
  (g_X0_become t1 a_X_fraction_above_limbs).bind fun v21 =>
  some (v21, a_X_fraction_below_limbs, a_X_fraction_term_limbs)
def g_X2_toChance (x1 : Int32) (x2 : Int32) (x3 : Int32) (a_X_fraction_above_limbs : Nat → Int32) (a_X_fraction_below_limbs : Nat → Int32) (a_X_fraction_term_limbs : Nat → Int32) : Option ((Nat → Int32) × (Nat → Int32) × (Nat → Int32)) :=
  (g_X0_become 0 a_X_fraction_above_limbs).bind fun v1 =>
  (g_X0_become 1 a_X_fraction_below_limbs).bind fun v3 =>
  if x2 < 10 then (
    (g_X0_become 1 a_X_fraction_term_limbs).bind fun v5 =>
    g_X2_toChance_57 x1 x2 x3 zF (10 - x2) 0 v1 v3 v5
  ) else (
    if x1 < x3 then (
      g_X2_toChance_36 x1 x2 x3 0 v1 v3 a_X_fraction_term_limbs
    ) else (
      g_X2_toChance_36 x1 x2 x3 1 v1 v3 a_X_fraction_term_limbs
    )
  )
theorem hd_X2_toChance : yX2_toChance.cls = RX2 ∧ yX2_toChance.cls ≠ "java/lang/invoke/MethodHandle" ∧ yX2_toChance.cls ≠ "java/lang/invoke/VarHandle" ∧ (parseMethodDescriptor yX2_toChance.desc).map (fun d => d.parameters.length) = some 3 := by decide +kernel
set_option maxHeartbeats 4000000 in
set_option maxRecDepth 100000 in
theorem c_X2_toChance (l : Launch) (D : va_G) (cI cJ cZ cA : ClassId) (ga : Nat → Nat) (q_X_fraction q_X_fraction_above q_X_fraction_above_limbs q_X_fraction_below q_X_fraction_below_limbs q_X_fraction_term q_X_fraction_term_limbs : Nat) (a_X_fraction_above_limbs : Nat → Int32) (a_X_fraction_below_limbs : Nat → Int32) (a_X_fraction_term_limbs : Nat → Int32) (x1 : Int32) (x2 : Int32) (x3 : Int32) (o : (Nat → Int32) × (Nat → Int32) × (Nat → Int32)) (hg : g_X2_toChance x1 x2 x3 a_X_fraction_above_limbs a_X_fraction_below_limbs a_X_fraction_term_limbs = some o) : zM l yX2_toChance (Cond.code yX2_toChance cX2_toChance 6 none :: wsL_law) rm_X2_toChance D (zTy cI cJ cZ cA) ga [.ref q_X_fraction, .int x1, .int x2, .int x3] (ws_X2_toChance cI cJ cZ cA q_X_fraction q_X_fraction_above q_X_fraction_above_limbs q_X_fraction_below q_X_fraction_below_limbs q_X_fraction_term q_X_fraction_term_limbs a_X_fraction_above_limbs a_X_fraction_below_limbs a_X_fraction_term_limbs) (ws_X2_toChance cI cJ cZ cA q_X_fraction q_X_fraction_above q_X_fraction_above_limbs q_X_fraction_below q_X_fraction_below_limbs q_X_fraction_term q_X_fraction_term_limbs o.1 o.2.1 o.2.2) none := by
  refine zenterV (own := RX2) (by decide) rfl rfl (Nat.le_of_ble_eq_true rfl) ?_
  intro p e s m args below meth c A ls Q S hA hK hG hl hP hD hS hret0
  have hx := S.1
  have hb := S.2.1
  have ht : ∀ w, w ∈ wsL_law → w.before args s = true := fun w h => S.2.2.2.2 w (List.mem_cons_of_mem _ h)
  have hret : ∀ (a_X_fraction_above_limbs : Nat → Int32) (a_X_fraction_below_limbs : Nat → Int32) (a_X_fraction_term_limbs : Nat → Int32), (some (a_X_fraction_above_limbs, a_X_fraction_below_limbs, a_X_fraction_term_limbs) : Option ((Nat → Int32) × (Nat → Int32) × (Nat → Int32))) = some o → ∀ (H : Heap) (locs : List Loc) (pc : Nat) (ls : Array Slot), va_P D vwCl (ws_X2_toChance cI cJ cZ cA q_X_fraction q_X_fraction_above q_X_fraction_above_limbs q_X_fraction_below q_X_fraction_below_limbs q_X_fraction_term q_X_fraction_term_limbs a_X_fraction_above_limbs a_X_fraction_below_limbs a_X_fraction_term_limbs) H → va_S A s.heap H locs → decode cX2_toChance pc = .ok (.return_, 1) → W p l e rm_X2_toChance s m args below meth c H locs 0 0 Q (F0 m pc ls []) := by
    intro a_X_fraction_above_limbs a_X_fraction_below_limbs a_X_fraction_term_limbs he; cases he; exact hret0
  have hl : lv_has ls 6 [(0, .ref q_X_fraction), (1, .int x1), (2, .int x2), (3, .int x3)] := hl
  have B113 : ∀ (k90 : Int32 → Int32 → (Nat → Int32) → (Nat → Int32) → (Nat → Int32) → Option ((Nat → Int32) × (Nat → Int32) × (Nat → Int32))) (hk90 : ∀ (x4 : Int32) (x5 : Int32) (a_X_fraction_above_limbs : Nat → Int32) (a_X_fraction_below_limbs : Nat → Int32) (a_X_fraction_term_limbs : Nat → Int32) (H : Heap) (locs : List Loc) (ls : Array Slot) (hl : lv_has ls 6 [(0, .ref q_X_fraction), (1, .int x1), (2, .int x2), (3, .int x3), (4, .int x4), (5, .int x5)]) (hP : va_P D vwCl (ws_X2_toChance cI cJ cZ cA q_X_fraction q_X_fraction_above q_X_fraction_above_limbs q_X_fraction_below q_X_fraction_below_limbs q_X_fraction_term q_X_fraction_term_limbs a_X_fraction_above_limbs a_X_fraction_below_limbs a_X_fraction_term_limbs) H) (hD : va_D A (ws_X2_toChance cI cJ cZ cA q_X_fraction q_X_fraction_above q_X_fraction_above_limbs q_X_fraction_below q_X_fraction_below_limbs q_X_fraction_term q_X_fraction_term_limbs a_X_fraction_above_limbs a_X_fraction_below_limbs a_X_fraction_term_limbs)) (hS : va_S A s.heap H locs), k90 x4 x5 a_X_fraction_above_limbs a_X_fraction_below_limbs a_X_fraction_term_limbs = some o → W p l e rm_X2_toChance s m args below meth c H locs 0 0 Q (F0 m 90 ls [])) (x4 : Int32) (x5 : Int32) (a_X_fraction_above_limbs : Nat → Int32) (a_X_fraction_below_limbs : Nat → Int32) (a_X_fraction_term_limbs : Nat → Int32) (H : Heap) (locs : List Loc) (ls : Array Slot) (hl : lv_has ls 6 [(0, .ref q_X_fraction), (1, .int x1), (2, .int x2), (3, .int x3), (4, .int x4), (5, .int x5)]) (hP : va_P D vwCl (ws_X2_toChance cI cJ cZ cA q_X_fraction q_X_fraction_above q_X_fraction_above_limbs q_X_fraction_below q_X_fraction_below_limbs q_X_fraction_term q_X_fraction_term_limbs a_X_fraction_above_limbs a_X_fraction_below_limbs a_X_fraction_term_limbs) H) (hD : va_D A (ws_X2_toChance cI cJ cZ cA q_X_fraction q_X_fraction_above q_X_fraction_above_limbs q_X_fraction_below q_X_fraction_below_limbs q_X_fraction_term q_X_fraction_term_limbs a_X_fraction_above_limbs a_X_fraction_below_limbs a_X_fraction_term_limbs)) (hS : va_S A s.heap H locs), g_X2_toChance_113 x1 x2 x3 k90 x4 x5 a_X_fraction_above_limbs a_X_fraction_below_limbs a_X_fraction_term_limbs = some o → W p l e rm_X2_toChance s m args below meth c H locs 0 0 Q (F0 m 113 ls []) := by
    intro k90 hk90 x4 x5 a_X_fraction_above_limbs a_X_fraction_below_limbs a_X_fraction_term_limbs H locs ls hl hP hD hS hg
    refine lv_aload_n hx hb dX2_toChance_113 rfl (lv_at hl 0 rfl) ?_
    refine zget (C := RX2) (T := TX2) (N := 3) S hK hP 0 rfl rfl 2 (Nat.le_of_ble_eq_true rfl) zf_2 zw_70 rfl dX2_toChance_114 ?_
    refine lv_iload_n hx hb dX2_toChance_117 rfl (lv_at hl 1 rfl) ?_
    refine lv_iload hx hb dX2_toChance_118 (lv_at hl 5 rfl) ?_
    refine lv_isub hx hb dX2_toChance_120 ?_
    refine lv_iload_n hx hb dX2_toChance_121 rfl (lv_at hl 2 rfl) ?_
    refine lv_imul hx hb dX2_toChance_122 ?_
    obtain ⟨v11, hc12, hg⟩ := zbd hg
    refine zcallV (rest := []) S (c_X0_times l D cI cJ cZ cA ga q_X_fraction_term q_X_fraction_term_limbs a_X_fraction_term_limbs ((x1 - x5) * x2) v11 hc12) (zgV zw_894 zw_895 zw_896 zw_67 zw_897) rfl hd_X0_times ⟨rfl, rfl⟩ ⟨Nat.le_of_ble_eq_true rfl, Nat.le_of_ble_eq_true rfl⟩ 5 0 rfl rfl rfl hl.1 rfl (Nat.le_of_ble_eq_true rfl) dX2_toChance_123 hP hD hS hA hK hG (isC := [5, 6]) rfl (by decide +kernel) rfl ⟨Nat.zero_le _, Nat.zero_le _⟩ (pl := [none, none, none, none, none, some 0, some 1]) (nw := 7) rfl (by decide +kernel) (w2 := (ws_X2_toChance cI cJ cZ cA q_X_fraction q_X_fraction_above q_X_fraction_above_limbs q_X_fraction_below q_X_fraction_below_limbs q_X_fraction_term q_X_fraction_term_limbs a_X_fraction_above_limbs a_X_fraction_below_limbs v11)) rfl (st1 := []) rfl (fun H locs hP hD hS => ?_)
    refine lv_aload_n hx hb dX2_toChance_126 rfl (lv_at hl 0 rfl) ?_
    refine zget (C := RX2) (T := TX2) (N := 3) S hK hP 0 rfl rfl 2 (Nat.le_of_ble_eq_true rfl) zf_2 zw_70 rfl dX2_toChance_127 ?_
    refine lv_iload hx hb dX2_toChance_130 (lv_at hl 5 rfl) ?_
    refine lv_iconst (v := 1) hx hb dX2_toChance_132 (by decide) ?_
    refine lv_iadd hx hb dX2_toChance_133 ?_
    refine lv_iload hx hb dX2_toChance_134 (lv_at hl 4 rfl) ?_
    refine lv_imul hx hb dX2_toChance_136 ?_
    obtain ⟨v13, hc14, hg⟩ := zbd hg
    refine zcallV (rest := []) S (c_X0_divide l D cI cJ cZ cA ga q_X_fraction_term q_X_fraction_term_limbs v11 ((x5 + 1) * x4) v13 hc14) (zgV zw_903 zw_904 zw_905 zw_67 zw_906) rfl hd_X0_divide ⟨rfl, rfl⟩ ⟨Nat.le_of_ble_eq_true rfl, Nat.le_of_ble_eq_true rfl⟩ 5 0 rfl rfl rfl hl.1 rfl (Nat.le_of_ble_eq_true rfl) dX2_toChance_137 hP hD hS hA hK hG (isC := [5, 6]) rfl (by decide +kernel) rfl ⟨Nat.zero_le _, Nat.zero_le _⟩ (pl := [none, none, none, none, none, some 0, some 1]) (nw := 7) rfl (by decide +kernel) (w2 := (ws_X2_toChance cI cJ cZ cA q_X_fraction q_X_fraction_above q_X_fraction_above_limbs q_X_fraction_below q_X_fraction_below_limbs q_X_fraction_term q_X_fraction_term_limbs a_X_fraction_above_limbs a_X_fraction_below_limbs v13)) rfl (st1 := []) rfl (fun H locs hP hD hS => ?_)
    refine lv_iinc (k := 5) (v := x5 + 1) (lv' := [(5, .int (x5 + 1)), (0, .ref q_X_fraction), (1, .int x1), (2, .int x2), (3, .int x3), (4, .int x4)]) hx hb dX2_toChance_140 hl rfl (zinc (by decide)) (by decide) rfl (fun ls hl => ?_)
    refine lv_goto (tgt := 90) hx hb dX2_toChance_143 (by decide) ?_
    exact hk90 x4 (x5 + 1) a_X_fraction_above_limbs a_X_fraction_below_limbs v13 _ _ _ (lv_sub hl [1, 2, 3, 4, 5, 0] rfl) hP hD hS hg
  have B90 : ∀  (n : Nat) (x4 : Int32) (x5 : Int32) (a_X_fraction_above_limbs : Nat → Int32) (a_X_fraction_below_limbs : Nat → Int32) (a_X_fraction_term_limbs : Nat → Int32) (H : Heap) (locs : List Loc) (ls : Array Slot) (hl : lv_has ls 6 [(0, .ref q_X_fraction), (1, .int x1), (2, .int x2), (3, .int x3), (4, .int x4), (5, .int x5)]) (hP : va_P D vwCl (ws_X2_toChance cI cJ cZ cA q_X_fraction q_X_fraction_above q_X_fraction_above_limbs q_X_fraction_below q_X_fraction_below_limbs q_X_fraction_term q_X_fraction_term_limbs a_X_fraction_above_limbs a_X_fraction_below_limbs a_X_fraction_term_limbs) H) (hD : va_D A (ws_X2_toChance cI cJ cZ cA q_X_fraction q_X_fraction_above q_X_fraction_above_limbs q_X_fraction_below q_X_fraction_below_limbs q_X_fraction_term q_X_fraction_term_limbs a_X_fraction_above_limbs a_X_fraction_below_limbs a_X_fraction_term_limbs)) (hS : va_S A s.heap H locs), g_X2_toChance_90 x1 x2 x3 n x4 x5 a_X_fraction_above_limbs a_X_fraction_below_limbs a_X_fraction_term_limbs = some o → W p l e rm_X2_toChance s m args below meth c H locs 0 0 Q (F0 m 90 ls []) := by
    intro  n
    induction n with
    | zero => intro x4 x5 a_X_fraction_above_limbs a_X_fraction_below_limbs a_X_fraction_term_limbs H locs ls hl hP hD hS hg; exact nomatch (show (none : Option ((Nat → Int32) × (Nat → Int32) × (Nat → Int32))) = some o from hg)
    | succ n ih =>
      intro x4 x5 a_X_fraction_above_limbs a_X_fraction_below_limbs a_X_fraction_term_limbs H locs ls hl hP hD hS hg
      have hg : g_X2_toChance_90b x1 x2 x3 (g_X2_toChance_90 x1 x2 x3 n) x4 x5 a_X_fraction_above_limbs a_X_fraction_below_limbs a_X_fraction_term_limbs = some o := hg
      refine lv_iload hx hb dX2_toChance_90 (lv_at hl 5 rfl) ?_
      refine lv_iload_n hx hb dX2_toChance_92 rfl (lv_at hl 1 rfl) ?_
      refine lv_icmp_gt (tgt := 146) hx hb dX2_toChance_93 (by decide) (fun h93 => ?_) (fun h93 => ?_)
      · have hg := zp hg h93
        refine lv_aload_n hx hb dX2_toChance_146 rfl (lv_at hl 0 rfl) ?_
        refine lv_iconst (v := 2) hx hb dX2_toChance_147 (by decide) ?_
        refine lv_iload_n hx hb dX2_toChance_148 rfl (lv_at hl 1 rfl) ?_
        obtain ⟨v7, hc8, hg⟩ := zbd hg
        refine zcallV (rest := []) S (c_X2_reduce l D cI cJ cZ cA ga q_X_fraction q_X_fraction_above q_X_fraction_above_limbs q_X_fraction_below q_X_fraction_below_limbs (.ref q_X_fraction_term) a_X_fraction_above_limbs a_X_fraction_below_limbs 2 x1 v7 hc8) (zgV zw_907 zw_908 zw_909 zw_19 zw_910) rfl hd_X2_reduce ⟨rfl, rfl⟩ ⟨Nat.le_of_ble_eq_true rfl, Nat.le_of_ble_eq_true rfl⟩ 0 2 rfl rfl rfl hl.1 rfl (Nat.le_of_ble_eq_true rfl) dX2_toChance_149 hP hD hS hA hK hG (isC := [0, 1, 2, 3, 4]) rfl (by decide +kernel) rfl ⟨Nat.zero_le _, Nat.zero_le _⟩ (pl := [some 0, some 1, some 2, some 3, some 4, none, none]) (nw := 7) rfl (by decide +kernel) (w2 := (ws_X2_toChance cI cJ cZ cA q_X_fraction q_X_fraction_above q_X_fraction_above_limbs q_X_fraction_below q_X_fraction_below_limbs q_X_fraction_term q_X_fraction_term_limbs v7.1 v7.2 a_X_fraction_term_limbs)) rfl (st1 := []) rfl (fun H locs hP hD hS => ?_)
        refine lv_aload_n hx hb dX2_toChance_152 rfl (lv_at hl 0 rfl) ?_
        refine lv_iconst (v := 5) hx hb dX2_toChance_153 (by decide) ?_
        refine lv_iload_n hx hb dX2_toChance_154 rfl (lv_at hl 1 rfl) ?_
        obtain ⟨v9, hc10, hg⟩ := zbd hg
        refine zcallV (rest := []) S (c_X2_reduce l D cI cJ cZ cA ga q_X_fraction q_X_fraction_above q_X_fraction_above_limbs q_X_fraction_below q_X_fraction_below_limbs (.ref q_X_fraction_term) v7.1 v7.2 5 x1 v9 hc10) (zgV zw_907 zw_908 zw_909 zw_19 zw_910) rfl hd_X2_reduce ⟨rfl, rfl⟩ ⟨Nat.le_of_ble_eq_true rfl, Nat.le_of_ble_eq_true rfl⟩ 0 2 rfl rfl rfl hl.1 rfl (Nat.le_of_ble_eq_true rfl) dX2_toChance_155 hP hD hS hA hK hG (isC := [0, 1, 2, 3, 4]) rfl (by decide +kernel) rfl ⟨Nat.zero_le _, Nat.zero_le _⟩ (pl := [some 0, some 1, some 2, some 3, some 4, none, none]) (nw := 7) rfl (by decide +kernel) (w2 := (ws_X2_toChance cI cJ cZ cA q_X_fraction q_X_fraction_above q_X_fraction_above_limbs q_X_fraction_below q_X_fraction_below_limbs q_X_fraction_term q_X_fraction_term_limbs v9.1 v9.2 a_X_fraction_term_limbs)) rfl (st1 := []) rfl (fun H locs hP hD hS => ?_)
        exact hret v9.1 v9.2 a_X_fraction_term_limbs hg _ _ _ _ hP hS dX2_toChance_158
      · have hg := zn hg h93
        refine lv_iload hx hb dX2_toChance_96 (lv_at hl 5 rfl) ?_
        refine lv_iload_n hx hb dX2_toChance_98 rfl (lv_at hl 3 rfl) ?_
        refine lv_icmp_lt (tgt := 113) hx hb dX2_toChance_99 (by decide) (fun h99 => ?_) (fun h99 => ?_)
        · have hg := zp hg h99
          exact B113 (g_X2_toChance_90 x1 x2 x3 n) ih x4 x5 a_X_fraction_above_limbs a_X_fraction_below_limbs a_X_fraction_term_limbs _ _ _ hl hP hD hS hg
        · have hg := zn hg h99
          refine lv_aload_n hx hb dX2_toChance_102 rfl (lv_at hl 0 rfl) ?_
          refine zget (C := RX2) (T := TX2) (N := 3) S hK hP 0 rfl rfl 0 (Nat.le_of_ble_eq_true rfl) zf_2 zw_68 rfl dX2_toChance_103 ?_
          refine lv_aload_n hx hb dX2_toChance_106 rfl (lv_at hl 0 rfl) ?_
          refine zget (C := RX2) (T := TX2) (N := 3) S hK hP 0 rfl rfl 2 (Nat.le_of_ble_eq_true rfl) zf_2 zw_70 rfl dX2_toChance_107 ?_
          obtain ⟨v15, hc16, hg⟩ := zbd hg
          refine zcallV (rest := []) S (c_X0_plus l D cI cJ cZ cA ga q_X_fraction_above q_X_fraction_term q_X_fraction_above_limbs q_X_fraction_term_limbs a_X_fraction_above_limbs a_X_fraction_term_limbs v15 hc16) (zgV zw_899 zw_900 zw_901 zw_67 zw_902) rfl hd_X0_plus ⟨rfl, rfl⟩ ⟨Nat.le_of_ble_eq_true rfl, Nat.le_of_ble_eq_true rfl⟩ 1 0 rfl rfl rfl hl.1 rfl (Nat.le_of_ble_eq_true rfl) dX2_toChance_110 hP hD hS hA hK hG (isC := [1, 2, 5, 6]) rfl (by decide +kernel) rfl ⟨Nat.zero_le _, Nat.zero_le _⟩ (pl := [none, some 0, some 1, none, none, some 2, some 3]) (nw := 7) rfl (by decide +kernel) (w2 := (ws_X2_toChance cI cJ cZ cA q_X_fraction q_X_fraction_above q_X_fraction_above_limbs q_X_fraction_below q_X_fraction_below_limbs q_X_fraction_term q_X_fraction_term_limbs v15 a_X_fraction_below_limbs a_X_fraction_term_limbs)) rfl (st1 := []) rfl (fun H locs hP hD hS => ?_)
          exact B113 (g_X2_toChance_90 x1 x2 x3 n) ih x4 x5 v15 a_X_fraction_below_limbs a_X_fraction_term_limbs _ _ _ hl hP hD hS hg
  have B57 : ∀  (n : Nat) (x4 : Int32) (x5 : Int32) (a_X_fraction_above_limbs : Nat → Int32) (a_X_fraction_below_limbs : Nat → Int32) (a_X_fraction_term_limbs : Nat → Int32) (H : Heap) (locs : List Loc) (ls : Array Slot) (hl : lv_has ls 6 [(0, .ref q_X_fraction), (1, .int x1), (2, .int x2), (3, .int x3), (4, .int x4), (5, .int x5)]) (hP : va_P D vwCl (ws_X2_toChance cI cJ cZ cA q_X_fraction q_X_fraction_above q_X_fraction_above_limbs q_X_fraction_below q_X_fraction_below_limbs q_X_fraction_term q_X_fraction_term_limbs a_X_fraction_above_limbs a_X_fraction_below_limbs a_X_fraction_term_limbs) H) (hD : va_D A (ws_X2_toChance cI cJ cZ cA q_X_fraction q_X_fraction_above q_X_fraction_above_limbs q_X_fraction_below q_X_fraction_below_limbs q_X_fraction_term q_X_fraction_term_limbs a_X_fraction_above_limbs a_X_fraction_below_limbs a_X_fraction_term_limbs)) (hS : va_S A s.heap H locs), g_X2_toChance_57 x1 x2 x3 n x4 x5 a_X_fraction_above_limbs a_X_fraction_below_limbs a_X_fraction_term_limbs = some o → W p l e rm_X2_toChance s m args below meth c H locs 0 0 Q (F0 m 57 ls []) := by
    intro  n
    induction n with
    | zero => intro x4 x5 a_X_fraction_above_limbs a_X_fraction_below_limbs a_X_fraction_term_limbs H locs ls hl hP hD hS hg; exact nomatch (show (none : Option ((Nat → Int32) × (Nat → Int32) × (Nat → Int32))) = some o from hg)
    | succ n ih =>
      intro x4 x5 a_X_fraction_above_limbs a_X_fraction_below_limbs a_X_fraction_term_limbs H locs ls hl hP hD hS hg
      have hg : g_X2_toChance_57b x1 x2 x3 (g_X2_toChance_57 x1 x2 x3 n) x4 x5 a_X_fraction_above_limbs a_X_fraction_below_limbs a_X_fraction_term_limbs = some o := hg
      refine lv_iload hx hb dX2_toChance_57 (lv_at hl 5 rfl) ?_
      refine lv_iload_n hx hb dX2_toChance_59 rfl (lv_at hl 1 rfl) ?_
      refine lv_icmp_ge (tgt := 87) hx hb dX2_toChance_60 (by decide) (fun h60 => ?_) (fun h60 => ?_)
      · have hg := zp hg h60
        refine lv_iconst (v := 0) hx hb dX2_toChance_87 (by decide) ?_
        refine lv_istore (lv' := [(5, .int 0), (0, .ref q_X_fraction), (1, .int x1), (2, .int x2), (3, .int x3), (4, .int x4)]) hx hb dX2_toChance_88 hl (by decide) rfl (fun ls hl => ?_)
        exact B90 zF x4 0 a_X_fraction_above_limbs a_X_fraction_below_limbs a_X_fraction_term_limbs _ _ _ (lv_sub hl [1, 2, 3, 4, 5, 0] rfl) hP hD hS hg
      · have hg := zn hg h60
        refine lv_aload_n hx hb dX2_toChance_63 rfl (lv_at hl 0 rfl) ?_
        refine zget (C := RX2) (T := TX2) (N := 3) S hK hP 0 rfl rfl 1 (Nat.le_of_ble_eq_true rfl) zf_2 zw_69 rfl dX2_toChance_64 ?_
        refine lv_bipush (v := 10) hx hb dX2_toChance_67 (by decide) ?_
        obtain ⟨v17, hc18, hg⟩ := zbd hg
        refine zcallV (rest := []) S (c_X0_times l D cI cJ cZ cA ga q_X_fraction_below q_X_fraction_below_limbs a_X_fraction_below_limbs 10 v17 hc18) (zgV zw_894 zw_895 zw_896 zw_67 zw_897) rfl hd_X0_times ⟨rfl, rfl⟩ ⟨Nat.le_of_ble_eq_true rfl, Nat.le_of_ble_eq_true rfl⟩ 3 0 rfl rfl rfl hl.1 rfl (Nat.le_of_ble_eq_true rfl) dX2_toChance_69 hP hD hS hA hK hG (isC := [3, 4]) rfl (by decide +kernel) rfl ⟨Nat.zero_le _, Nat.zero_le _⟩ (pl := [none, none, none, some 0, some 1, none, none]) (nw := 7) rfl (by decide +kernel) (w2 := (ws_X2_toChance cI cJ cZ cA q_X_fraction q_X_fraction_above q_X_fraction_above_limbs q_X_fraction_below q_X_fraction_below_limbs q_X_fraction_term q_X_fraction_term_limbs a_X_fraction_above_limbs v17 a_X_fraction_term_limbs)) rfl (st1 := []) rfl (fun H locs hP hD hS => ?_)
        refine lv_aload_n hx hb dX2_toChance_72 rfl (lv_at hl 0 rfl) ?_
        refine zget (C := RX2) (T := TX2) (N := 3) S hK hP 0 rfl rfl 2 (Nat.le_of_ble_eq_true rfl) zf_2 zw_70 rfl dX2_toChance_73 ?_
        refine lv_iload hx hb dX2_toChance_76 (lv_at hl 4 rfl) ?_
        obtain ⟨v19, hc20, hg⟩ := zbd hg
        refine zcallV (rest := []) S (c_X0_times l D cI cJ cZ cA ga q_X_fraction_term q_X_fraction_term_limbs a_X_fraction_term_limbs x4 v19 hc20) (zgV zw_894 zw_895 zw_896 zw_67 zw_897) rfl hd_X0_times ⟨rfl, rfl⟩ ⟨Nat.le_of_ble_eq_true rfl, Nat.le_of_ble_eq_true rfl⟩ 5 0 rfl rfl rfl hl.1 rfl (Nat.le_of_ble_eq_true rfl) dX2_toChance_78 hP hD hS hA hK hG (isC := [5, 6]) rfl (by decide +kernel) rfl ⟨Nat.zero_le _, Nat.zero_le _⟩ (pl := [none, none, none, none, none, some 0, some 1]) (nw := 7) rfl (by decide +kernel) (w2 := (ws_X2_toChance cI cJ cZ cA q_X_fraction q_X_fraction_above q_X_fraction_above_limbs q_X_fraction_below q_X_fraction_below_limbs q_X_fraction_term q_X_fraction_term_limbs a_X_fraction_above_limbs v17 v19)) rfl (st1 := []) rfl (fun H locs hP hD hS => ?_)
        refine lv_iinc (k := 5) (v := x5 + 1) (lv' := [(5, .int (x5 + 1)), (0, .ref q_X_fraction), (1, .int x1), (2, .int x2), (3, .int x3), (4, .int x4)]) hx hb dX2_toChance_81 hl rfl (zinc (by decide)) (by decide) rfl (fun ls hl => ?_)
        refine lv_goto (tgt := 57) hx hb dX2_toChance_84 (by decide) ?_
        exact ih x4 (x5 + 1) a_X_fraction_above_limbs v17 v19 _ _ _ (lv_sub hl [1, 2, 3, 4, 5, 0] rfl) hP hD hS hg
  have B36 : ∀ (t1 : Int32) (a_X_fraction_above_limbs : Nat → Int32) (a_X_fraction_below_limbs : Nat → Int32) (a_X_fraction_term_limbs : Nat → Int32) (H : Heap) (locs : List Loc) (ls : Array Slot) (hl : lv_has ls 6 []) (hP : va_P D vwCl (ws_X2_toChance cI cJ cZ cA q_X_fraction q_X_fraction_above q_X_fraction_above_limbs q_X_fraction_below q_X_fraction_below_limbs q_X_fraction_term q_X_fraction_term_limbs a_X_fraction_above_limbs a_X_fraction_below_limbs a_X_fraction_term_limbs) H) (hD : va_D A (ws_X2_toChance cI cJ cZ cA q_X_fraction q_X_fraction_above q_X_fraction_above_limbs q_X_fraction_below q_X_fraction_below_limbs q_X_fraction_term q_X_fraction_term_limbs a_X_fraction_above_limbs a_X_fraction_below_limbs a_X_fraction_term_limbs)) (hS : va_S A s.heap H locs), g_X2_toChance_36 x1 x2 x3 t1 a_X_fraction_above_limbs a_X_fraction_below_limbs a_X_fraction_term_limbs = some o → W p l e rm_X2_toChance s m args below meth c H locs 0 0 Q (F0 m 36 ls [.int t1, .ref q_X_fraction_above]) := by
    intro  t1 a_X_fraction_above_limbs a_X_fraction_below_limbs a_X_fraction_term_limbs H locs ls hl hP hD hS hg
    obtain ⟨v21, hc22, hg⟩ := zbd hg
    refine zcallV (rest := []) S (c_X0_become l D cI cJ cZ cA ga q_X_fraction_above q_X_fraction_above_limbs a_X_fraction_above_limbs t1 v21 hc22) (zgV zw_889 zw_890 zw_891 zw_67 zw_892) rfl hd_X0_become ⟨rfl, rfl⟩ ⟨Nat.le_of_ble_eq_true rfl, Nat.le_of_ble_eq_true rfl⟩ 1 0 rfl rfl rfl hl.1 rfl (Nat.le_of_ble_eq_true rfl) dX2_toChance_36 hP hD hS hA hK hG (isC := [1, 2]) rfl (by decide +kernel) rfl ⟨Nat.zero_le _, Nat.zero_le _⟩ (pl := [none, some 0, some 1, none, none, none, none]) (nw := 7) rfl (by decide +kernel) (w2 := (ws_X2_toChance cI cJ cZ cA q_X_fraction q_X_fraction_above q_X_fraction_above_limbs q_X_fraction_below q_X_fraction_below_limbs q_X_fraction_term q_X_fraction_term_limbs v21 a_X_fraction_below_limbs a_X_fraction_term_limbs)) rfl (st1 := []) rfl (fun H locs hP hD hS => ?_)
    exact hret v21 a_X_fraction_below_limbs a_X_fraction_term_limbs hg _ _ _ _ hP hS dX2_toChance_39
  refine lv_aload_n hx hb dX2_toChance_0 rfl (lv_at hl 0 rfl) ?_
  refine zget (C := RX2) (T := TX2) (N := 3) S hK hP 0 rfl rfl 0 (Nat.le_of_ble_eq_true rfl) zf_2 zw_68 rfl dX2_toChance_1 ?_
  refine lv_iconst (v := 0) hx hb dX2_toChance_4 (by decide) ?_
  obtain ⟨v1, hc2, hg⟩ := zbd hg
  refine zcallV (rest := []) S (c_X0_become l D cI cJ cZ cA ga q_X_fraction_above q_X_fraction_above_limbs a_X_fraction_above_limbs 0 v1 hc2) (zgV zw_889 zw_890 zw_891 zw_67 zw_892) rfl hd_X0_become ⟨rfl, rfl⟩ ⟨Nat.le_of_ble_eq_true rfl, Nat.le_of_ble_eq_true rfl⟩ 1 0 rfl rfl rfl hl.1 rfl (Nat.le_of_ble_eq_true rfl) dX2_toChance_5 hP hD hS hA hK hG (isC := [1, 2]) rfl (by decide +kernel) rfl ⟨Nat.zero_le _, Nat.zero_le _⟩ (pl := [none, some 0, some 1, none, none, none, none]) (nw := 7) rfl (by decide +kernel) (w2 := (ws_X2_toChance cI cJ cZ cA q_X_fraction q_X_fraction_above q_X_fraction_above_limbs q_X_fraction_below q_X_fraction_below_limbs q_X_fraction_term q_X_fraction_term_limbs v1 a_X_fraction_below_limbs a_X_fraction_term_limbs)) rfl (st1 := []) rfl (fun H locs hP hD hS => ?_)
  refine lv_aload_n hx hb dX2_toChance_8 rfl (lv_at hl 0 rfl) ?_
  refine zget (C := RX2) (T := TX2) (N := 3) S hK hP 0 rfl rfl 1 (Nat.le_of_ble_eq_true rfl) zf_2 zw_69 rfl dX2_toChance_9 ?_
  refine lv_iconst (v := 1) hx hb dX2_toChance_12 (by decide) ?_
  obtain ⟨v3, hc4, hg⟩ := zbd hg
  refine zcallV (rest := []) S (c_X0_become l D cI cJ cZ cA ga q_X_fraction_below q_X_fraction_below_limbs a_X_fraction_below_limbs 1 v3 hc4) (zgV zw_889 zw_890 zw_891 zw_67 zw_892) rfl hd_X0_become ⟨rfl, rfl⟩ ⟨Nat.le_of_ble_eq_true rfl, Nat.le_of_ble_eq_true rfl⟩ 3 0 rfl rfl rfl hl.1 rfl (Nat.le_of_ble_eq_true rfl) dX2_toChance_13 hP hD hS hA hK hG (isC := [3, 4]) rfl (by decide +kernel) rfl ⟨Nat.zero_le _, Nat.zero_le _⟩ (pl := [none, none, none, some 0, some 1, none, none]) (nw := 7) rfl (by decide +kernel) (w2 := (ws_X2_toChance cI cJ cZ cA q_X_fraction q_X_fraction_above q_X_fraction_above_limbs q_X_fraction_below q_X_fraction_below_limbs q_X_fraction_term q_X_fraction_term_limbs v1 v3 a_X_fraction_term_limbs)) rfl (st1 := []) rfl (fun H locs hP hD hS => ?_)
  refine lv_iload_n hx hb dX2_toChance_16 rfl (lv_at hl 2 rfl) ?_
  refine lv_bipush (v := 10) hx hb dX2_toChance_17 (by decide) ?_
  refine lv_icmp_lt (tgt := 40) hx hb dX2_toChance_19 (by decide) (fun h19 => ?_) (fun h19 => ?_)
  · have hg := zp hg h19
    refine lv_bipush (v := 10) hx hb dX2_toChance_40 (by decide) ?_
    refine lv_iload_n hx hb dX2_toChance_42 rfl (lv_at hl 2 rfl) ?_
    refine lv_isub hx hb dX2_toChance_43 ?_
    refine lv_istore (lv' := [(4, .int (10 - x2)), (0, .ref q_X_fraction), (1, .int x1), (2, .int x2), (3, .int x3)]) hx hb dX2_toChance_44 hl (by decide) rfl (fun ls hl => ?_)
    refine lv_aload_n hx hb dX2_toChance_46 rfl (lv_at hl 1 rfl) ?_
    refine zget (C := RX2) (T := TX2) (N := 3) S hK hP 0 rfl rfl 2 (Nat.le_of_ble_eq_true rfl) zf_2 zw_70 rfl dX2_toChance_47 ?_
    refine lv_iconst (v := 1) hx hb dX2_toChance_50 (by decide) ?_
    obtain ⟨v5, hc6, hg⟩ := zbd hg
    refine zcallV (rest := []) S (c_X0_become l D cI cJ cZ cA ga q_X_fraction_term q_X_fraction_term_limbs a_X_fraction_term_limbs 1 v5 hc6) (zgV zw_889 zw_890 zw_891 zw_67 zw_892) rfl hd_X0_become ⟨rfl, rfl⟩ ⟨Nat.le_of_ble_eq_true rfl, Nat.le_of_ble_eq_true rfl⟩ 5 0 rfl rfl rfl hl.1 rfl (Nat.le_of_ble_eq_true rfl) dX2_toChance_51 hP hD hS hA hK hG (isC := [5, 6]) rfl (by decide +kernel) rfl ⟨Nat.zero_le _, Nat.zero_le _⟩ (pl := [none, none, none, none, none, some 0, some 1]) (nw := 7) rfl (by decide +kernel) (w2 := (ws_X2_toChance cI cJ cZ cA q_X_fraction q_X_fraction_above q_X_fraction_above_limbs q_X_fraction_below q_X_fraction_below_limbs q_X_fraction_term q_X_fraction_term_limbs v1 v3 v5)) rfl (st1 := []) rfl (fun H locs hP hD hS => ?_)
    refine lv_iconst (v := 0) hx hb dX2_toChance_54 (by decide) ?_
    refine lv_istore (lv' := [(5, .int 0), (4, .int (10 - x2)), (0, .ref q_X_fraction), (1, .int x1), (2, .int x2), (3, .int x3)]) hx hb dX2_toChance_55 hl (by decide) rfl (fun ls hl => ?_)
    exact B57 zF (10 - x2) 0 v1 v3 v5 _ _ _ (lv_sub hl [2, 3, 4, 5, 1, 0] rfl) hP hD hS hg
  · have hg := zn hg h19
    refine lv_aload_n hx hb dX2_toChance_22 rfl (lv_at hl 0 rfl) ?_
    refine zget (C := RX2) (T := TX2) (N := 3) S hK hP 0 rfl rfl 0 (Nat.le_of_ble_eq_true rfl) zf_2 zw_68 rfl dX2_toChance_23 ?_
    refine lv_iload_n hx hb dX2_toChance_26 rfl (lv_at hl 3 rfl) ?_
    refine lv_iload_n hx hb dX2_toChance_27 rfl (lv_at hl 1 rfl) ?_
    refine lv_icmp_gt (tgt := 35) hx hb dX2_toChance_28 (by decide) (fun h28 => ?_) (fun h28 => ?_)
    · have hg := zp hg h28
      refine lv_iconst (v := 0) hx hb dX2_toChance_35 (by decide) ?_
      exact B36 0 v1 v3 a_X_fraction_term_limbs _ _ _ (lv_sub hl [] rfl) hP hD hS hg
    · have hg := zn hg h28
      refine lv_iconst (v := 1) hx hb dX2_toChance_31 (by decide) ?_
      refine lv_goto (tgt := 36) hx hb dX2_toChance_32 (by decide) ?_
      exact B36 1 v1 v3 a_X_fraction_term_limbs _ _ _ (lv_sub hl [] rfl) hP hD hS hg

/-! SpokenClock.night(III)I -/
abbrev ws_X10_night (cI cJ cZ cA : ClassId) (q_X q_X_refusals q_X_fraction q_X_fraction_above q_X_fraction_above_limbs q_X_fraction_below q_X_fraction_below_limbs q_X_fraction_term q_X_fraction_term_limbs : Nat) (u_X_now : Value) (u_X_draft : Value) (u_X_text : Value) (u_X_reader : Value) (u_X_rule : Value) (u_X_day : Value) (u_X_plan : Value) (u_X_guess : Value) (u_X_quarrel : Value) (u_X_firstImage : Value) (u_X_secondImage : Value) (u_X_kept : Value) (a_X_refusals : Nat → Int32) (a_X_fraction_above_limbs : Nat → Int32) (a_X_fraction_below_limbs : Nat → Int32) (a_X_fraction_term_limbs : Nat → Int32) : va_W := [(q_X, .inr (10, [u_X_now, u_X_draft, u_X_text, u_X_reader, u_X_rule, u_X_day, u_X_plan, u_X_guess, u_X_quarrel, .ref q_X_fraction, u_X_firstImage, u_X_secondImage, u_X_kept, .ref q_X_refusals])), (q_X_refusals, .inl (cI, 3, .inl a_X_refusals)), (q_X_fraction, .inr (2, [.ref q_X_fraction_above, .ref q_X_fraction_below, .ref q_X_fraction_term])), (q_X_fraction_above, .inr (0, [.ref q_X_fraction_above_limbs])), (q_X_fraction_above_limbs, .inl (cI, 8, .inl a_X_fraction_above_limbs)), (q_X_fraction_below, .inr (0, [.ref q_X_fraction_below_limbs])), (q_X_fraction_below_limbs, .inl (cI, 8, .inl a_X_fraction_below_limbs)), (q_X_fraction_term, .inr (0, [.ref q_X_fraction_term_limbs])), (q_X_fraction_term_limbs, .inl (cI, 8, .inl a_X_fraction_term_limbs))]
abbrev rm_X10_night : Room := { frames := 3, cells := 0, slots := 0, locals := 74 }
def g_X10_night_30 (x1 : Int32) (x2 : Int32) (x3 : Int32) (a_X_refusals : Nat → Int32) (a_X_fraction_above_limbs : Nat → Int32) (a_X_fraction_below_limbs : Nat → Int32) (a_X_fraction_term_limbs : Nat → Int32) : Option (Int32 × (Nat → Int32) × (Nat → Int32) × (Nat → Int32) × (Nat → Int32)) :=
  (g_X10_refuse (-2) a_X_refusals).bind fun v3 =>
  some (v3.1, v3.2, a_X_fraction_above_limbs, a_X_fraction_below_limbs, a_X_fraction_term_limbs)
def g_X10_night (x1 : Int32) (x2 : Int32) (x3 : Int32) (a_X_refusals : Nat → Int32) (a_X_fraction_above_limbs : Nat → Int32) (a_X_fraction_below_limbs : Nat → Int32) (a_X_fraction_term_limbs : Nat → Int32) : Option (Int32 × (Nat → Int32) × (Nat → Int32) × (Nat → Int32) × (Nat → Int32)) :=
  (g_X10_isIn x1 0 60).bind fun v1 =>
  if v1 = 0 then (
    g_X10_night_30 x1 x2 x3 a_X_refusals a_X_fraction_above_limbs a_X_fraction_below_limbs a_X_fraction_term_limbs
  ) else (
    (g_X10_isIn x2 0 10).bind fun v5 =>
    if v5 = 0 then (
      g_X10_night_30 x1 x2 x3 a_X_refusals a_X_fraction_above_limbs a_X_fraction_below_limbs a_X_fraction_term_limbs
    ) else (
      (g_X10_isIn x3 0 60).bind fun v7 =>
      if v7 = 0 then (
        g_X10_night_30 x1 x2 x3 a_X_refusals a_X_fraction_above_limbs a_X_fraction_below_limbs a_X_fraction_term_limbs
      ) else (
        (g_X2_toChance x1 x2 x3 a_X_fraction_above_limbs a_X_fraction_below_limbs a_X_fraction_term_limbs).bind fun v9 =>
        some (1, a_X_refusals, v9.1, v9.2.1, v9.2.2)
      )
    )
  )
theorem hd_X10_night : yX10_night.cls = RX10 ∧ yX10_night.cls ≠ "java/lang/invoke/MethodHandle" ∧ yX10_night.cls ≠ "java/lang/invoke/VarHandle" ∧ (parseMethodDescriptor yX10_night.desc).map (fun d => d.parameters.length) = some 3 := by decide +kernel
set_option maxHeartbeats 4000000 in
set_option maxRecDepth 100000 in
theorem c_X10_night (l : Launch) (D : va_G) (cI cJ cZ cA : ClassId) (ga : Nat → Nat) (q_X q_X_refusals q_X_fraction q_X_fraction_above q_X_fraction_above_limbs q_X_fraction_below q_X_fraction_below_limbs q_X_fraction_term q_X_fraction_term_limbs : Nat) (u_X_now : Value) (u_X_draft : Value) (u_X_text : Value) (u_X_reader : Value) (u_X_rule : Value) (u_X_day : Value) (u_X_plan : Value) (u_X_guess : Value) (u_X_quarrel : Value) (u_X_firstImage : Value) (u_X_secondImage : Value) (u_X_kept : Value) (a_X_refusals : Nat → Int32) (a_X_fraction_above_limbs : Nat → Int32) (a_X_fraction_below_limbs : Nat → Int32) (a_X_fraction_term_limbs : Nat → Int32) (x1 : Int32) (x2 : Int32) (x3 : Int32) (o : Int32 × (Nat → Int32) × (Nat → Int32) × (Nat → Int32) × (Nat → Int32)) (hg : g_X10_night x1 x2 x3 a_X_refusals a_X_fraction_above_limbs a_X_fraction_below_limbs a_X_fraction_term_limbs = some o) : zM l yX10_night (Cond.code yX10_night cX10_night 4 (some .int) :: wsL_law) rm_X10_night D (zTy cI cJ cZ cA) ga [.ref q_X, .int x1, .int x2, .int x3] (ws_X10_night cI cJ cZ cA q_X q_X_refusals q_X_fraction q_X_fraction_above q_X_fraction_above_limbs q_X_fraction_below q_X_fraction_below_limbs q_X_fraction_term q_X_fraction_term_limbs u_X_now u_X_draft u_X_text u_X_reader u_X_rule u_X_day u_X_plan u_X_guess u_X_quarrel u_X_firstImage u_X_secondImage u_X_kept a_X_refusals a_X_fraction_above_limbs a_X_fraction_below_limbs a_X_fraction_term_limbs) (ws_X10_night cI cJ cZ cA q_X q_X_refusals q_X_fraction q_X_fraction_above q_X_fraction_above_limbs q_X_fraction_below q_X_fraction_below_limbs q_X_fraction_term q_X_fraction_term_limbs u_X_now u_X_draft u_X_text u_X_reader u_X_rule u_X_day u_X_plan u_X_guess u_X_quarrel u_X_firstImage u_X_secondImage u_X_kept o.2.1 o.2.2.1 o.2.2.2.1 o.2.2.2.2) (some (.int o.1)) := by
  refine zenterI (own := RX10) (by decide) rfl rfl (Nat.le_of_ble_eq_true rfl) ?_
  intro p e s m args below meth c A ls Q S hA hK hG hl hP hD hS hret0
  have hx := S.1
  have hb := S.2.1
  have ht : ∀ w, w ∈ wsL_law → w.before args s = true := fun w h => S.2.2.2.2 w (List.mem_cons_of_mem _ h)
  have hret : ∀ (r9 : Int32) (a_X_refusals : Nat → Int32) (a_X_fraction_above_limbs : Nat → Int32) (a_X_fraction_below_limbs : Nat → Int32) (a_X_fraction_term_limbs : Nat → Int32), (some (r9, a_X_refusals, a_X_fraction_above_limbs, a_X_fraction_below_limbs, a_X_fraction_term_limbs) : Option (Int32 × (Nat → Int32) × (Nat → Int32) × (Nat → Int32) × (Nat → Int32))) = some o → ∀ (H : Heap) (locs : List Loc) (pc : Nat) (ls : Array Slot), va_P D vwCl (ws_X10_night cI cJ cZ cA q_X q_X_refusals q_X_fraction q_X_fraction_above q_X_fraction_above_limbs q_X_fraction_below q_X_fraction_below_limbs q_X_fraction_term q_X_fraction_term_limbs u_X_now u_X_draft u_X_text u_X_reader u_X_rule u_X_day u_X_plan u_X_guess u_X_quarrel u_X_firstImage u_X_secondImage u_X_kept a_X_refusals a_X_fraction_above_limbs a_X_fraction_below_limbs a_X_fraction_term_limbs) H → va_S A s.heap H locs → decode cX10_night pc = .ok (.ireturn, 1) → W p l e rm_X10_night s m args below meth c H locs 0 0 Q (F0 m pc ls [.int r9]) := by
    intro r9 a_X_refusals a_X_fraction_above_limbs a_X_fraction_below_limbs a_X_fraction_term_limbs he; cases he; exact hret0
  have hl : lv_has ls 4 [(0, .ref q_X), (1, .int x1), (2, .int x2), (3, .int x3)] := hl
  have B30 : ∀ (a_X_refusals : Nat → Int32) (a_X_fraction_above_limbs : Nat → Int32) (a_X_fraction_below_limbs : Nat → Int32) (a_X_fraction_term_limbs : Nat → Int32) (H : Heap) (locs : List Loc) (ls : Array Slot) (hl : lv_has ls 4 [(0, .ref q_X)]) (hP : va_P D vwCl (ws_X10_night cI cJ cZ cA q_X q_X_refusals q_X_fraction q_X_fraction_above q_X_fraction_above_limbs q_X_fraction_below q_X_fraction_below_limbs q_X_fraction_term q_X_fraction_term_limbs u_X_now u_X_draft u_X_text u_X_reader u_X_rule u_X_day u_X_plan u_X_guess u_X_quarrel u_X_firstImage u_X_secondImage u_X_kept a_X_refusals a_X_fraction_above_limbs a_X_fraction_below_limbs a_X_fraction_term_limbs) H) (hD : va_D A (ws_X10_night cI cJ cZ cA q_X q_X_refusals q_X_fraction q_X_fraction_above q_X_fraction_above_limbs q_X_fraction_below q_X_fraction_below_limbs q_X_fraction_term q_X_fraction_term_limbs u_X_now u_X_draft u_X_text u_X_reader u_X_rule u_X_day u_X_plan u_X_guess u_X_quarrel u_X_firstImage u_X_secondImage u_X_kept a_X_refusals a_X_fraction_above_limbs a_X_fraction_below_limbs a_X_fraction_term_limbs)) (hS : va_S A s.heap H locs), g_X10_night_30 x1 x2 x3 a_X_refusals a_X_fraction_above_limbs a_X_fraction_below_limbs a_X_fraction_term_limbs = some o → W p l e rm_X10_night s m args below meth c H locs 0 0 Q (F0 m 30 ls []) := by
    intro  a_X_refusals a_X_fraction_above_limbs a_X_fraction_below_limbs a_X_fraction_term_limbs H locs ls hl hP hD hS hg
    refine lv_aload_n hx hb dX10_night_30 rfl (lv_at hl 0 rfl) ?_
    refine lv_bipush (v := (-2)) hx hb dX10_night_31 (by decide) ?_
    obtain ⟨v3, hc4, hg⟩ := zbd hg
    refine zcallV (rest := []) S (c_X10_refuse l D cI cJ cZ cA ga q_X q_X_refusals u_X_now u_X_draft u_X_text u_X_reader u_X_rule u_X_day u_X_plan u_X_guess u_X_quarrel (.ref q_X_fraction) u_X_firstImage u_X_secondImage u_X_kept a_X_refusals (-2) v3 hc4) (zgV zw_184 zw_185 zw_186 zw_2 zw_187) rfl hd_X10_refuse ⟨rfl, rfl⟩ ⟨Nat.le_of_ble_eq_true rfl, Nat.le_of_ble_eq_true rfl⟩ 0 10 rfl rfl rfl hl.1 rfl (Nat.le_of_ble_eq_true rfl) dX10_night_33 hP hD hS hA hK hG (isC := [0, 1]) rfl (by decide +kernel) rfl ⟨Nat.zero_le _, Nat.zero_le _⟩ (pl := [some 0, some 1, none, none, none, none, none, none, none]) (nw := 9) rfl (by decide +kernel) (w2 := (ws_X10_night cI cJ cZ cA q_X q_X_refusals q_X_fraction q_X_fraction_above q_X_fraction_above_limbs q_X_fraction_below q_X_fraction_below_limbs q_X_fraction_term q_X_fraction_term_limbs u_X_now u_X_draft u_X_text u_X_reader u_X_rule u_X_day u_X_plan u_X_guess u_X_quarrel u_X_firstImage u_X_secondImage u_X_kept v3.2 a_X_fraction_above_limbs a_X_fraction_below_limbs a_X_fraction_term_limbs)) rfl (st1 := [.int v3.1]) rfl (fun H locs hP hD hS => ?_)
    exact hret v3.1 v3.2 a_X_fraction_above_limbs a_X_fraction_below_limbs a_X_fraction_term_limbs hg _ _ _ _ hP hS dX10_night_36
  refine lv_iload_n hx hb dX10_night_0 rfl (lv_at hl 1 rfl) ?_
  refine lv_iconst (v := 0) hx hb dX10_night_1 (by decide) ?_
  refine lv_bipush (v := 60) hx hb dX10_night_2 (by decide) ?_
  obtain ⟨v1, hc2, hg⟩ := zbd hg
  refine zcallS (rest := []) S (c_X10_isIn l D cI cJ cZ cA ga x1 0 60 v1 hc2) (zgS zw_188 zw_189 zw_2 zw_190) rfl hd_X10_isIn ⟨rfl, rfl⟩ ⟨Nat.le_of_ble_eq_true rfl, Nat.le_of_ble_eq_true rfl⟩ rfl hl.1 rfl (Nat.le_of_ble_eq_true rfl) dX10_night_4 hP hD hS hA hK hG (isC := []) rfl (by decide +kernel) rfl ⟨Nat.zero_le _, Nat.zero_le _⟩ (pl := [none, none, none, none, none, none, none, none, none]) (nw := 9) rfl (by decide +kernel) (w2 := (ws_X10_night cI cJ cZ cA q_X q_X_refusals q_X_fraction q_X_fraction_above q_X_fraction_above_limbs q_X_fraction_below q_X_fraction_below_limbs q_X_fraction_term q_X_fraction_term_limbs u_X_now u_X_draft u_X_text u_X_reader u_X_rule u_X_day u_X_plan u_X_guess u_X_quarrel u_X_firstImage u_X_secondImage u_X_kept a_X_refusals a_X_fraction_above_limbs a_X_fraction_below_limbs a_X_fraction_term_limbs)) rfl (st1 := [.int v1]) rfl (fun H locs hP hD hS => ?_)
  refine lv_if_eq (tgt := 30) hx hb dX10_night_7 (by decide) (fun h7 => ?_) (fun h7 => ?_)
  · have hg := zp hg h7
    exact B30 a_X_refusals a_X_fraction_above_limbs a_X_fraction_below_limbs a_X_fraction_term_limbs _ _ _ (lv_sub hl [0] rfl) hP hD hS hg
  · have hg := zn hg h7
    refine lv_iload_n hx hb dX10_night_10 rfl (lv_at hl 2 rfl) ?_
    refine lv_iconst (v := 0) hx hb dX10_night_11 (by decide) ?_
    refine lv_bipush (v := 10) hx hb dX10_night_12 (by decide) ?_
    obtain ⟨v5, hc6, hg⟩ := zbd hg
    refine zcallS (rest := []) S (c_X10_isIn l D cI cJ cZ cA ga x2 0 10 v5 hc6) (zgS zw_188 zw_189 zw_2 zw_190) rfl hd_X10_isIn ⟨rfl, rfl⟩ ⟨Nat.le_of_ble_eq_true rfl, Nat.le_of_ble_eq_true rfl⟩ rfl hl.1 rfl (Nat.le_of_ble_eq_true rfl) dX10_night_14 hP hD hS hA hK hG (isC := []) rfl (by decide +kernel) rfl ⟨Nat.zero_le _, Nat.zero_le _⟩ (pl := [none, none, none, none, none, none, none, none, none]) (nw := 9) rfl (by decide +kernel) (w2 := (ws_X10_night cI cJ cZ cA q_X q_X_refusals q_X_fraction q_X_fraction_above q_X_fraction_above_limbs q_X_fraction_below q_X_fraction_below_limbs q_X_fraction_term q_X_fraction_term_limbs u_X_now u_X_draft u_X_text u_X_reader u_X_rule u_X_day u_X_plan u_X_guess u_X_quarrel u_X_firstImage u_X_secondImage u_X_kept a_X_refusals a_X_fraction_above_limbs a_X_fraction_below_limbs a_X_fraction_term_limbs)) rfl (st1 := [.int v5]) rfl (fun H locs hP hD hS => ?_)
    refine lv_if_eq (tgt := 30) hx hb dX10_night_17 (by decide) (fun h17 => ?_) (fun h17 => ?_)
    · have hg := zp hg h17
      exact B30 a_X_refusals a_X_fraction_above_limbs a_X_fraction_below_limbs a_X_fraction_term_limbs _ _ _ (lv_sub hl [0] rfl) hP hD hS hg
    · have hg := zn hg h17
      refine lv_iload_n hx hb dX10_night_20 rfl (lv_at hl 3 rfl) ?_
      refine lv_iconst (v := 0) hx hb dX10_night_21 (by decide) ?_
      refine lv_bipush (v := 60) hx hb dX10_night_22 (by decide) ?_
      obtain ⟨v7, hc8, hg⟩ := zbd hg
      refine zcallS (rest := []) S (c_X10_isIn l D cI cJ cZ cA ga x3 0 60 v7 hc8) (zgS zw_188 zw_189 zw_2 zw_190) rfl hd_X10_isIn ⟨rfl, rfl⟩ ⟨Nat.le_of_ble_eq_true rfl, Nat.le_of_ble_eq_true rfl⟩ rfl hl.1 rfl (Nat.le_of_ble_eq_true rfl) dX10_night_24 hP hD hS hA hK hG (isC := []) rfl (by decide +kernel) rfl ⟨Nat.zero_le _, Nat.zero_le _⟩ (pl := [none, none, none, none, none, none, none, none, none]) (nw := 9) rfl (by decide +kernel) (w2 := (ws_X10_night cI cJ cZ cA q_X q_X_refusals q_X_fraction q_X_fraction_above q_X_fraction_above_limbs q_X_fraction_below q_X_fraction_below_limbs q_X_fraction_term q_X_fraction_term_limbs u_X_now u_X_draft u_X_text u_X_reader u_X_rule u_X_day u_X_plan u_X_guess u_X_quarrel u_X_firstImage u_X_secondImage u_X_kept a_X_refusals a_X_fraction_above_limbs a_X_fraction_below_limbs a_X_fraction_term_limbs)) rfl (st1 := [.int v7]) rfl (fun H locs hP hD hS => ?_)
      refine lv_if_ne (tgt := 37) hx hb dX10_night_27 (by decide) (fun h27 => ?_) (fun h27 => ?_)
      · have hg := zn hg h27
        refine lv_aload_n hx hb dX10_night_37 rfl (lv_at hl 0 rfl) ?_
        refine zget (C := RX10) (T := TX10) (N := 14) S hK hP 0 rfl rfl 9 (Nat.le_of_ble_eq_true rfl) zf_10 zw_20 rfl dX10_night_38 ?_
        refine lv_iload_n hx hb dX10_night_41 rfl (lv_at hl 1 rfl) ?_
        refine lv_iload_n hx hb dX10_night_42 rfl (lv_at hl 2 rfl) ?_
        refine lv_iload_n hx hb dX10_night_43 rfl (lv_at hl 3 rfl) ?_
        obtain ⟨v9, hc10, hg⟩ := zbd hg
        refine zcallV (rest := []) S (c_X2_toChance l D cI cJ cZ cA ga q_X_fraction q_X_fraction_above q_X_fraction_above_limbs q_X_fraction_below q_X_fraction_below_limbs q_X_fraction_term q_X_fraction_term_limbs a_X_fraction_above_limbs a_X_fraction_below_limbs a_X_fraction_term_limbs x1 x2 x3 v9 hc10) (zgV zw_885 zw_886 zw_887 zw_19 zw_888) rfl hd_X2_toChance ⟨rfl, rfl⟩ ⟨Nat.le_of_ble_eq_true rfl, Nat.le_of_ble_eq_true rfl⟩ 2 2 rfl rfl rfl hl.1 rfl (Nat.le_of_ble_eq_true rfl) dX10_night_44 hP hD hS hA hK hG (isC := [2, 3, 4, 5, 6, 7, 8]) rfl (by decide +kernel) rfl ⟨Nat.zero_le _, Nat.zero_le _⟩ (pl := [none, none, some 0, some 1, some 2, some 3, some 4, some 5, some 6]) (nw := 9) rfl (by decide +kernel) (w2 := (ws_X10_night cI cJ cZ cA q_X q_X_refusals q_X_fraction q_X_fraction_above q_X_fraction_above_limbs q_X_fraction_below q_X_fraction_below_limbs q_X_fraction_term q_X_fraction_term_limbs u_X_now u_X_draft u_X_text u_X_reader u_X_rule u_X_day u_X_plan u_X_guess u_X_quarrel u_X_firstImage u_X_secondImage u_X_kept a_X_refusals v9.1 v9.2.1 v9.2.2)) rfl (st1 := []) rfl (fun H locs hP hD hS => ?_)
        refine lv_iconst (v := 1) hx hb dX10_night_47 (by decide) ?_
        exact hret 1 a_X_refusals v9.1 v9.2.1 v9.2.2 hg _ _ _ _ hP hS dX10_night_48
      · have hg := zp hg h27
        exact B30 a_X_refusals a_X_fraction_above_limbs a_X_fraction_below_limbs a_X_fraction_term_limbs _ _ _ (lv_sub hl [0] rfl) hP hD hS hg

/-! SpokenClock$Guess.fits(II)Z -/
abbrev ws_X3_fits (cI cJ cZ cA : ClassId) (q_X_guess q_X_guess_seen q_X_day q_X_now q_X_now_people q_X_day_talkers q_X_now_people_cells q_X_now_settings q_X_rule q_X_rule_known q_X_rule_stack q_X_rule_row : Nat) (u_X_guess_sets : Value) (u_X_guess_least : Value) (u_X_guess_surely : Value) (u_X_guess_isStale : Value) (u_X_now_talks : Value) (u_X_now_dues : Value) (u_X_now_sights : Value) (u_X_now_rule : Value) (u_X_now_stake : Value) (u_X_now_people_limit : Value) (u_X_day_clocks : Value) (u_X_day_isStale : Value) (u_X_rule_place : Value) (u_X_rule_isStale : Value) (N_X_now_people_cells : Nat) (a_X_guess_seen : Nat → Int32) (v_X_now_people_width : Int32) (v_X_now_people_size : Int32) (a_X_day_talkers : Nat → Int32) (a_X_now_people_cells : Nat → Int32) (a_X_now_settings : Nat → Int32) (v_X_rule_size : Int32) (v_X_rule_fault : Int32) (a_X_rule_known : Nat → Int32) (a_X_rule_stack : Nat → Int64) (a_X_rule_row : Nat → Int32) : va_W := [(q_X_guess, .inr (3, [.ref q_X_now, .ref q_X_day, .ref q_X_guess_seen, u_X_guess_sets, u_X_guess_least, u_X_guess_surely, u_X_guess_isStale])), (q_X_guess_seen, .inl (cI, 241, .inl a_X_guess_seen)), (q_X_now, .inr (9, [.ref q_X_now_people, u_X_now_talks, u_X_now_dues, u_X_now_sights, u_X_now_rule, .ref q_X_now_settings, u_X_now_stake])), (q_X_now_people, .inr (7, [.int v_X_now_people_width, u_X_now_people_limit, .ref q_X_now_people_cells, .int v_X_now_people_size])), (q_X_day, .inr (1, [.ref q_X_now, .ref q_X_rule, .ref q_X_day_talkers, u_X_day_clocks, u_X_day_isStale])), (q_X_day_talkers, .inl (cI, 240, .inl a_X_day_talkers)), (q_X_now_people_cells, .inl (cI, N_X_now_people_cells, .inl a_X_now_people_cells)), (q_X_now_settings, .inl (cI, 3, .inl a_X_now_settings)), (q_X_rule, .inr (8, [.ref q_X_now, .ref q_X_rule_row, .ref q_X_rule_stack, .ref q_X_rule_known, .int v_X_rule_size, u_X_rule_place, .int v_X_rule_fault, u_X_rule_isStale])), (q_X_rule_known, .inl (cI, 6, .inl a_X_rule_known)), (q_X_rule_stack, .inl (cJ, 40, .inr (.inl a_X_rule_stack))), (q_X_rule_row, .inl (cI, 40, .inl a_X_rule_row))]
abbrev rm_X3_fits : Room := { frames := 5, cells := 0, slots := 0, locals := 123 }
def g_X3_fits_98 (N_X_now_people_cells : Nat) (a_X_guess_seen : Nat → Int32) (v_X_now_people_width : Int32) (v_X_now_people_size : Int32) (a_X_day_talkers : Nat → Int32) (a_X_now_people_cells : Nat → Int32) (a_X_now_settings : Nat → Int32) (v_X_rule_size : Int32) (v_X_rule_fault : Int32) (a_X_rule_row : Nat → Int32) (x1 : Int32) (x2 : Int32) (k5 : Int32 → Int32 → (Nat → Int32) → (Nat → Int64) → Option (Int32 × (Nat → Int32) × (Nat → Int64))) (x3 : Int32) (x4 : Int32) (a_X_rule_known : Nat → Int32) (a_X_rule_stack : Nat → Int64) : Option (Int32 × (Nat → Int32) × (Nat → Int64)) :=
  k5 x3 (x4 + 1) a_X_rule_known a_X_rule_stack
def g_X3_fits_43 (N_X_now_people_cells : Nat) (a_X_guess_seen : Nat → Int32) (v_X_now_people_width : Int32) (v_X_now_people_size : Int32) (a_X_day_talkers : Nat → Int32) (a_X_now_people_cells : Nat → Int32) (a_X_now_settings : Nat → Int32) (v_X_rule_size : Int32) (v_X_rule_fault : Int32) (a_X_rule_row : Nat → Int32) (x1 : Int32) (x2 : Int32) (k5 : Int32 → Int32 → (Nat → Int32) → (Nat → Int64) → Option (Int32 × (Nat → Int32) × (Nat → Int64))) (x3 : Int32) (x4 : Int32) (a_X_rule_known : Nat → Int32) (a_X_rule_stack : Nat → Int64) : Option (Int32 × (Nat → Int32) × (Nat → Int64)) :=
  if x2 ≤ x4 then (
    g_X3_fits_98 N_X_now_people_cells a_X_guess_seen v_X_now_people_width v_X_now_people_size a_X_day_talkers a_X_now_people_cells a_X_now_settings v_X_rule_size v_X_rule_fault a_X_rule_row x1 x2 k5 x3 x4 a_X_rule_known a_X_rule_stack
  ) else (
    if 240 ≤ x4 then (
      g_X3_fits_98 N_X_now_people_cells a_X_guess_seen v_X_now_people_width v_X_now_people_size a_X_day_talkers a_X_now_people_cells a_X_now_settings v_X_rule_size v_X_rule_fault a_X_rule_row x1 x2 k5 x3 x4 a_X_rule_known a_X_rule_stack
    ) else (
      (g_X7_size v_X_now_people_size).bind fun v2 =>
      (g_X1_together N_X_now_people_cells a_X_day_talkers v_X_now_people_width v_X_now_people_size a_X_now_people_cells a_X_now_settings v_X_rule_size v_X_rule_fault a_X_rule_row 0 x4 x3 x1 v2 a_X_rule_known a_X_rule_stack).bind fun v4 =>
      g_X3_fits_98 N_X_now_people_cells a_X_guess_seen v_X_now_people_width v_X_now_people_size a_X_day_talkers a_X_now_people_cells a_X_now_settings v_X_rule_size v_X_rule_fault a_X_rule_row x1 x2 k5 (x3 + (if (a_X_now_settings 0) < v4.1 then (a_X_now_settings 0) else v4.1)) x4 v4.2.1 v4.2.2
    )
  )
def g_X3_fits_5b (N_X_now_people_cells : Nat) (a_X_guess_seen : Nat → Int32) (v_X_now_people_width : Int32) (v_X_now_people_size : Int32) (a_X_day_talkers : Nat → Int32) (a_X_now_people_cells : Nat → Int32) (a_X_now_settings : Nat → Int32) (v_X_rule_size : Int32) (v_X_rule_fault : Int32) (a_X_rule_row : Nat → Int32) (x1 : Int32) (x2 : Int32) (k5 : Int32 → Int32 → (Nat → Int32) → (Nat → Int64) → Option (Int32 × (Nat → Int32) × (Nat → Int64))) (x3 : Int32) (x4 : Int32) (a_X_rule_known : Nat → Int32) (a_X_rule_stack : Nat → Int64) : Option (Int32 × (Nat → Int32) × (Nat → Int64)) :=
  if x2 < x4 then (
    some (1, a_X_rule_known, a_X_rule_stack)
  ) else (
    if 240 < x4 then (
      some (1, a_X_rule_known, a_X_rule_stack)
    ) else (
      if x4 < 0 ∨ 241 ≤ x4.toNatClampNeg then none else
      if (a_X_guess_seen (x4.toNatClampNeg)) = (-1) then (
        g_X3_fits_43 N_X_now_people_cells a_X_guess_seen v_X_now_people_width v_X_now_people_size a_X_day_talkers a_X_now_people_cells a_X_now_settings v_X_rule_size v_X_rule_fault a_X_rule_row x1 x2 k5 x3 x4 a_X_rule_known a_X_rule_stack
      ) else (
        if x4 < 0 ∨ 241 ≤ x4.toNatClampNeg then none else
        if (a_X_guess_seen (x4.toNatClampNeg)) = x3 then (
          g_X3_fits_43 N_X_now_people_cells a_X_guess_seen v_X_now_people_width v_X_now_people_size a_X_day_talkers a_X_now_people_cells a_X_now_settings v_X_rule_size v_X_rule_fault a_X_rule_row x1 x2 k5 x3 x4 a_X_rule_known a_X_rule_stack
        ) else (
          some (0, a_X_rule_known, a_X_rule_stack)
        )
      )
    )
  )
def g_X3_fits_5 (N_X_now_people_cells : Nat) (a_X_guess_seen : Nat → Int32) (v_X_now_people_width : Int32) (v_X_now_people_size : Int32) (a_X_day_talkers : Nat → Int32) (a_X_now_people_cells : Nat → Int32) (a_X_now_settings : Nat → Int32) (v_X_rule_size : Int32) (v_X_rule_fault : Int32) (a_X_rule_row : Nat → Int32) (x1 : Int32) (x2 : Int32) : Nat → Int32 → Int32 → (Nat → Int32) → (Nat → Int64) → Option (Int32 × (Nat → Int32) × (Nat → Int64))
  | 0, _, _, _, _ => none
  | n + 1, x3, x4, a_X_rule_known, a_X_rule_stack => g_X3_fits_5b N_X_now_people_cells a_X_guess_seen v_X_now_people_width v_X_now_people_size a_X_day_talkers a_X_now_people_cells a_X_now_settings v_X_rule_size v_X_rule_fault a_X_rule_row x1 x2 (g_X3_fits_5 N_X_now_people_cells a_X_guess_seen v_X_now_people_width v_X_now_people_size a_X_day_talkers a_X_now_people_cells a_X_now_settings v_X_rule_size v_X_rule_fault a_X_rule_row x1 x2 n) x3 x4 a_X_rule_known a_X_rule_stack
def g_X3_fits (N_X_now_people_cells : Nat) (a_X_guess_seen : Nat → Int32) (v_X_now_people_width : Int32) (v_X_now_people_size : Int32) (a_X_day_talkers : Nat → Int32) (a_X_now_people_cells : Nat → Int32) (a_X_now_settings : Nat → Int32) (v_X_rule_size : Int32) (v_X_rule_fault : Int32) (a_X_rule_row : Nat → Int32) (x1 : Int32) (x2 : Int32) (a_X_rule_known : Nat → Int32) (a_X_rule_stack : Nat → Int64) : Option (Int32 × (Nat → Int32) × (Nat → Int64)) :=
  g_X3_fits_5 N_X_now_people_cells a_X_guess_seen v_X_now_people_width v_X_now_people_size a_X_day_talkers a_X_now_people_cells a_X_now_settings v_X_rule_size v_X_rule_fault a_X_rule_row x1 x2 zF 0 0 a_X_rule_known a_X_rule_stack
theorem hd_X3_fits : yX3_fits.cls = RX3 ∧ yX3_fits.cls ≠ "java/lang/invoke/MethodHandle" ∧ yX3_fits.cls ≠ "java/lang/invoke/VarHandle" ∧ (parseMethodDescriptor yX3_fits.desc).map (fun d => d.parameters.length) = some 2 := by decide +kernel
set_option maxHeartbeats 4000000 in
set_option maxRecDepth 100000 in
theorem c_X3_fits (l : Launch) (D : va_G) (cI cJ cZ cA : ClassId) (ga : Nat → Nat) (q_X_guess q_X_guess_seen q_X_day q_X_now q_X_now_people q_X_day_talkers q_X_now_people_cells q_X_now_settings q_X_rule q_X_rule_known q_X_rule_stack q_X_rule_row : Nat) (u_X_guess_sets : Value) (u_X_guess_least : Value) (u_X_guess_surely : Value) (u_X_guess_isStale : Value) (u_X_now_talks : Value) (u_X_now_dues : Value) (u_X_now_sights : Value) (u_X_now_rule : Value) (u_X_now_stake : Value) (u_X_now_people_limit : Value) (u_X_day_clocks : Value) (u_X_day_isStale : Value) (u_X_rule_place : Value) (u_X_rule_isStale : Value) (N_X_now_people_cells : Nat) (a_X_guess_seen : Nat → Int32) (v_X_now_people_width : Int32) (v_X_now_people_size : Int32) (a_X_day_talkers : Nat → Int32) (a_X_now_people_cells : Nat → Int32) (a_X_now_settings : Nat → Int32) (v_X_rule_size : Int32) (v_X_rule_fault : Int32) (a_X_rule_known : Nat → Int32) (a_X_rule_stack : Nat → Int64) (a_X_rule_row : Nat → Int32) (x1 : Int32) (x2 : Int32) (o : Int32 × (Nat → Int32) × (Nat → Int64)) (hg : g_X3_fits N_X_now_people_cells a_X_guess_seen v_X_now_people_width v_X_now_people_size a_X_day_talkers a_X_now_people_cells a_X_now_settings v_X_rule_size v_X_rule_fault a_X_rule_row x1 x2 a_X_rule_known a_X_rule_stack = some o) : zM l yX3_fits (Cond.code yX3_fits cX3_fits 6 (some .boolean) :: wsL_law) rm_X3_fits D (zTy cI cJ cZ cA) ga [.ref q_X_guess, .int x1, .int x2] (ws_X3_fits cI cJ cZ cA q_X_guess q_X_guess_seen q_X_day q_X_now q_X_now_people q_X_day_talkers q_X_now_people_cells q_X_now_settings q_X_rule q_X_rule_known q_X_rule_stack q_X_rule_row u_X_guess_sets u_X_guess_least u_X_guess_surely u_X_guess_isStale u_X_now_talks u_X_now_dues u_X_now_sights u_X_now_rule u_X_now_stake u_X_now_people_limit u_X_day_clocks u_X_day_isStale u_X_rule_place u_X_rule_isStale N_X_now_people_cells a_X_guess_seen v_X_now_people_width v_X_now_people_size a_X_day_talkers a_X_now_people_cells a_X_now_settings v_X_rule_size v_X_rule_fault a_X_rule_known a_X_rule_stack a_X_rule_row) (ws_X3_fits cI cJ cZ cA q_X_guess q_X_guess_seen q_X_day q_X_now q_X_now_people q_X_day_talkers q_X_now_people_cells q_X_now_settings q_X_rule q_X_rule_known q_X_rule_stack q_X_rule_row u_X_guess_sets u_X_guess_least u_X_guess_surely u_X_guess_isStale u_X_now_talks u_X_now_dues u_X_now_sights u_X_now_rule u_X_now_stake u_X_now_people_limit u_X_day_clocks u_X_day_isStale u_X_rule_place u_X_rule_isStale N_X_now_people_cells a_X_guess_seen v_X_now_people_width v_X_now_people_size a_X_day_talkers a_X_now_people_cells a_X_now_settings v_X_rule_size v_X_rule_fault o.2.1 o.2.2 a_X_rule_row) (some (.int o.1)) := by
  refine zenterN (own := RX3) (by decide) rfl rfl (Nat.le_of_ble_eq_true rfl) ?_
  intro p e s m args below meth c A ls Q S hA hK hG hl hP hD hS hret0
  have hx := S.1
  have hb := S.2.1
  have ht : ∀ w, w ∈ wsL_law → w.before args s = true := fun w h => S.2.2.2.2 w (List.mem_cons_of_mem _ h)
  have hret : ∀ (r9 : Int32) (a_X_rule_known : Nat → Int32) (a_X_rule_stack : Nat → Int64), (some (r9, a_X_rule_known, a_X_rule_stack) : Option (Int32 × (Nat → Int32) × (Nat → Int64))) = some o → narrow .boolean (.int r9) = .int r9 → ∀ (H : Heap) (locs : List Loc) (pc : Nat) (ls : Array Slot), va_P D vwCl (ws_X3_fits cI cJ cZ cA q_X_guess q_X_guess_seen q_X_day q_X_now q_X_now_people q_X_day_talkers q_X_now_people_cells q_X_now_settings q_X_rule q_X_rule_known q_X_rule_stack q_X_rule_row u_X_guess_sets u_X_guess_least u_X_guess_surely u_X_guess_isStale u_X_now_talks u_X_now_dues u_X_now_sights u_X_now_rule u_X_now_stake u_X_now_people_limit u_X_day_clocks u_X_day_isStale u_X_rule_place u_X_rule_isStale N_X_now_people_cells a_X_guess_seen v_X_now_people_width v_X_now_people_size a_X_day_talkers a_X_now_people_cells a_X_now_settings v_X_rule_size v_X_rule_fault a_X_rule_known a_X_rule_stack a_X_rule_row) H → va_S A s.heap H locs → decode cX3_fits pc = .ok (.ireturn, 1) → W p l e rm_X3_fits s m args below meth c H locs 0 0 Q (F0 m pc ls [.int r9]) := by
    intro r9 a_X_rule_known a_X_rule_stack he; cases he; exact hret0
  have hl : lv_has ls 6 [(0, .ref q_X_guess), (1, .int x1), (2, .int x2)] := hl
  have B98 : ∀ (k5 : Int32 → Int32 → (Nat → Int32) → (Nat → Int64) → Option (Int32 × (Nat → Int32) × (Nat → Int64))) (hk5 : ∀ (x3 : Int32) (x4 : Int32) (a_X_rule_known : Nat → Int32) (a_X_rule_stack : Nat → Int64) (H : Heap) (locs : List Loc) (ls : Array Slot) (hl : lv_has ls 6 [(0, .ref q_X_guess), (1, .int x1), (2, .int x2), (3, .int x3), (4, .int x4)]) (hP : va_P D vwCl (ws_X3_fits cI cJ cZ cA q_X_guess q_X_guess_seen q_X_day q_X_now q_X_now_people q_X_day_talkers q_X_now_people_cells q_X_now_settings q_X_rule q_X_rule_known q_X_rule_stack q_X_rule_row u_X_guess_sets u_X_guess_least u_X_guess_surely u_X_guess_isStale u_X_now_talks u_X_now_dues u_X_now_sights u_X_now_rule u_X_now_stake u_X_now_people_limit u_X_day_clocks u_X_day_isStale u_X_rule_place u_X_rule_isStale N_X_now_people_cells a_X_guess_seen v_X_now_people_width v_X_now_people_size a_X_day_talkers a_X_now_people_cells a_X_now_settings v_X_rule_size v_X_rule_fault a_X_rule_known a_X_rule_stack a_X_rule_row) H) (hD : va_D A (ws_X3_fits cI cJ cZ cA q_X_guess q_X_guess_seen q_X_day q_X_now q_X_now_people q_X_day_talkers q_X_now_people_cells q_X_now_settings q_X_rule q_X_rule_known q_X_rule_stack q_X_rule_row u_X_guess_sets u_X_guess_least u_X_guess_surely u_X_guess_isStale u_X_now_talks u_X_now_dues u_X_now_sights u_X_now_rule u_X_now_stake u_X_now_people_limit u_X_day_clocks u_X_day_isStale u_X_rule_place u_X_rule_isStale N_X_now_people_cells a_X_guess_seen v_X_now_people_width v_X_now_people_size a_X_day_talkers a_X_now_people_cells a_X_now_settings v_X_rule_size v_X_rule_fault a_X_rule_known a_X_rule_stack a_X_rule_row)) (hS : va_S A s.heap H locs), k5 x3 x4 a_X_rule_known a_X_rule_stack = some o → W p l e rm_X3_fits s m args below meth c H locs 0 0 Q (F0 m 5 ls [])) (x3 : Int32) (x4 : Int32) (a_X_rule_known : Nat → Int32) (a_X_rule_stack : Nat → Int64) (H : Heap) (locs : List Loc) (ls : Array Slot) (hl : lv_has ls 6 [(0, .ref q_X_guess), (1, .int x1), (2, .int x2), (3, .int x3), (4, .int x4)]) (hP : va_P D vwCl (ws_X3_fits cI cJ cZ cA q_X_guess q_X_guess_seen q_X_day q_X_now q_X_now_people q_X_day_talkers q_X_now_people_cells q_X_now_settings q_X_rule q_X_rule_known q_X_rule_stack q_X_rule_row u_X_guess_sets u_X_guess_least u_X_guess_surely u_X_guess_isStale u_X_now_talks u_X_now_dues u_X_now_sights u_X_now_rule u_X_now_stake u_X_now_people_limit u_X_day_clocks u_X_day_isStale u_X_rule_place u_X_rule_isStale N_X_now_people_cells a_X_guess_seen v_X_now_people_width v_X_now_people_size a_X_day_talkers a_X_now_people_cells a_X_now_settings v_X_rule_size v_X_rule_fault a_X_rule_known a_X_rule_stack a_X_rule_row) H) (hD : va_D A (ws_X3_fits cI cJ cZ cA q_X_guess q_X_guess_seen q_X_day q_X_now q_X_now_people q_X_day_talkers q_X_now_people_cells q_X_now_settings q_X_rule q_X_rule_known q_X_rule_stack q_X_rule_row u_X_guess_sets u_X_guess_least u_X_guess_surely u_X_guess_isStale u_X_now_talks u_X_now_dues u_X_now_sights u_X_now_rule u_X_now_stake u_X_now_people_limit u_X_day_clocks u_X_day_isStale u_X_rule_place u_X_rule_isStale N_X_now_people_cells a_X_guess_seen v_X_now_people_width v_X_now_people_size a_X_day_talkers a_X_now_people_cells a_X_now_settings v_X_rule_size v_X_rule_fault a_X_rule_known a_X_rule_stack a_X_rule_row)) (hS : va_S A s.heap H locs), g_X3_fits_98 N_X_now_people_cells a_X_guess_seen v_X_now_people_width v_X_now_people_size a_X_day_talkers a_X_now_people_cells a_X_now_settings v_X_rule_size v_X_rule_fault a_X_rule_row x1 x2 k5 x3 x4 a_X_rule_known a_X_rule_stack = some o → W p l e rm_X3_fits s m args below meth c H locs 0 0 Q (F0 m 98 ls []) := by
    intro k5 hk5 x3 x4 a_X_rule_known a_X_rule_stack H locs ls hl hP hD hS hg
    refine lv_iinc (k := 4) (v := x4 + 1) (lv' := [(4, .int (x4 + 1)), (0, .ref q_X_guess), (1, .int x1), (2, .int x2), (3, .int x3)]) hx hb dX3_fits_98 hl rfl (zinc (by decide)) (by decide) rfl (fun ls hl => ?_)
    refine lv_goto (tgt := 5) hx hb dX3_fits_101 (by decide) ?_
    exact hk5 x3 (x4 + 1) a_X_rule_known a_X_rule_stack _ _ _ (lv_sub hl [1, 2, 3, 4, 0] rfl) hP hD hS hg
  have B43 : ∀ (k5 : Int32 → Int32 → (Nat → Int32) → (Nat → Int64) → Option (Int32 × (Nat → Int32) × (Nat → Int64))) (hk5 : ∀ (x3 : Int32) (x4 : Int32) (a_X_rule_known : Nat → Int32) (a_X_rule_stack : Nat → Int64) (H : Heap) (locs : List Loc) (ls : Array Slot) (hl : lv_has ls 6 [(0, .ref q_X_guess), (1, .int x1), (2, .int x2), (3, .int x3), (4, .int x4)]) (hP : va_P D vwCl (ws_X3_fits cI cJ cZ cA q_X_guess q_X_guess_seen q_X_day q_X_now q_X_now_people q_X_day_talkers q_X_now_people_cells q_X_now_settings q_X_rule q_X_rule_known q_X_rule_stack q_X_rule_row u_X_guess_sets u_X_guess_least u_X_guess_surely u_X_guess_isStale u_X_now_talks u_X_now_dues u_X_now_sights u_X_now_rule u_X_now_stake u_X_now_people_limit u_X_day_clocks u_X_day_isStale u_X_rule_place u_X_rule_isStale N_X_now_people_cells a_X_guess_seen v_X_now_people_width v_X_now_people_size a_X_day_talkers a_X_now_people_cells a_X_now_settings v_X_rule_size v_X_rule_fault a_X_rule_known a_X_rule_stack a_X_rule_row) H) (hD : va_D A (ws_X3_fits cI cJ cZ cA q_X_guess q_X_guess_seen q_X_day q_X_now q_X_now_people q_X_day_talkers q_X_now_people_cells q_X_now_settings q_X_rule q_X_rule_known q_X_rule_stack q_X_rule_row u_X_guess_sets u_X_guess_least u_X_guess_surely u_X_guess_isStale u_X_now_talks u_X_now_dues u_X_now_sights u_X_now_rule u_X_now_stake u_X_now_people_limit u_X_day_clocks u_X_day_isStale u_X_rule_place u_X_rule_isStale N_X_now_people_cells a_X_guess_seen v_X_now_people_width v_X_now_people_size a_X_day_talkers a_X_now_people_cells a_X_now_settings v_X_rule_size v_X_rule_fault a_X_rule_known a_X_rule_stack a_X_rule_row)) (hS : va_S A s.heap H locs), k5 x3 x4 a_X_rule_known a_X_rule_stack = some o → W p l e rm_X3_fits s m args below meth c H locs 0 0 Q (F0 m 5 ls [])) (x3 : Int32) (x4 : Int32) (a_X_rule_known : Nat → Int32) (a_X_rule_stack : Nat → Int64) (H : Heap) (locs : List Loc) (ls : Array Slot) (hl : lv_has ls 6 [(0, .ref q_X_guess), (1, .int x1), (2, .int x2), (3, .int x3), (4, .int x4)]) (hP : va_P D vwCl (ws_X3_fits cI cJ cZ cA q_X_guess q_X_guess_seen q_X_day q_X_now q_X_now_people q_X_day_talkers q_X_now_people_cells q_X_now_settings q_X_rule q_X_rule_known q_X_rule_stack q_X_rule_row u_X_guess_sets u_X_guess_least u_X_guess_surely u_X_guess_isStale u_X_now_talks u_X_now_dues u_X_now_sights u_X_now_rule u_X_now_stake u_X_now_people_limit u_X_day_clocks u_X_day_isStale u_X_rule_place u_X_rule_isStale N_X_now_people_cells a_X_guess_seen v_X_now_people_width v_X_now_people_size a_X_day_talkers a_X_now_people_cells a_X_now_settings v_X_rule_size v_X_rule_fault a_X_rule_known a_X_rule_stack a_X_rule_row) H) (hD : va_D A (ws_X3_fits cI cJ cZ cA q_X_guess q_X_guess_seen q_X_day q_X_now q_X_now_people q_X_day_talkers q_X_now_people_cells q_X_now_settings q_X_rule q_X_rule_known q_X_rule_stack q_X_rule_row u_X_guess_sets u_X_guess_least u_X_guess_surely u_X_guess_isStale u_X_now_talks u_X_now_dues u_X_now_sights u_X_now_rule u_X_now_stake u_X_now_people_limit u_X_day_clocks u_X_day_isStale u_X_rule_place u_X_rule_isStale N_X_now_people_cells a_X_guess_seen v_X_now_people_width v_X_now_people_size a_X_day_talkers a_X_now_people_cells a_X_now_settings v_X_rule_size v_X_rule_fault a_X_rule_known a_X_rule_stack a_X_rule_row)) (hS : va_S A s.heap H locs), g_X3_fits_43 N_X_now_people_cells a_X_guess_seen v_X_now_people_width v_X_now_people_size a_X_day_talkers a_X_now_people_cells a_X_now_settings v_X_rule_size v_X_rule_fault a_X_rule_row x1 x2 k5 x3 x4 a_X_rule_known a_X_rule_stack = some o → W p l e rm_X3_fits s m args below meth c H locs 0 0 Q (F0 m 43 ls []) := by
    intro k5 hk5 x3 x4 a_X_rule_known a_X_rule_stack H locs ls hl hP hD hS hg
    refine lv_iload hx hb dX3_fits_43 (lv_at hl 4 rfl) ?_
    refine lv_iload_n hx hb dX3_fits_45 rfl (lv_at hl 2 rfl) ?_
    refine lv_icmp_ge (tgt := 98) hx hb dX3_fits_46 (by decide) (fun h46 => ?_) (fun h46 => ?_)
    · have hg := zp hg h46
      exact B98 k5 hk5 x3 x4 a_X_rule_known a_X_rule_stack _ _ _ hl hP hD hS hg
    · have hg := zn hg h46
      refine lv_iload hx hb dX3_fits_49 (lv_at hl 4 rfl) ?_
      refine lv_sipush (v := 240) hx hb dX3_fits_51 (by decide) ?_
      refine lv_icmp_ge (tgt := 98) hx hb dX3_fits_54 (by decide) (fun h54 => ?_) (fun h54 => ?_)
      · have hg := zp hg h54
        exact B98 k5 hk5 x3 x4 a_X_rule_known a_X_rule_stack _ _ _ hl hP hD hS hg
      · have hg := zn hg h54
        refine lv_aload_n hx hb dX3_fits_57 rfl (lv_at hl 0 rfl) ?_
        refine zget (C := RX3) (T := TX3) (N := 7) S hK hP 0 rfl rfl 1 (Nat.le_of_ble_eq_true rfl) zf_3 zw_144 rfl dX3_fits_58 ?_
        refine lv_iconst (v := 0) hx hb dX3_fits_61 (by decide) ?_
        refine lv_iload hx hb dX3_fits_62 (lv_at hl 4 rfl) ?_
        refine lv_iload_n hx hb dX3_fits_64 rfl (lv_at hl 3 rfl) ?_
        refine lv_iload_n hx hb dX3_fits_65 rfl (lv_at hl 1 rfl) ?_
        refine lv_aload_n hx hb dX3_fits_66 rfl (lv_at hl 0 rfl) ?_
        refine zget (C := RX3) (T := TX3) (N := 7) S hK hP 0 rfl rfl 0 (Nat.le_of_ble_eq_true rfl) zf_3 zw_143 rfl dX3_fits_67 ?_
        refine zget (C := RX9) (T := TX9) (N := 7) S hK hP 2 rfl rfl 0 (Nat.le_of_ble_eq_true rfl) zf_9 zw_963 rfl dX3_fits_70 ?_
        obtain ⟨v2, hc3, hg⟩ := zbd hg
        refine zcallV (rest := [.int x1, .int x3, .int x4, .int 0, .ref q_X_day]) S (c_X7_size l D cI cJ cZ cA ga q_X_now_people (.int v_X_now_people_width) u_X_now_people_limit (.ref q_X_now_people_cells) v_X_now_people_size v2 hc3) (zgV zw_956 zw_180 zw_181 zw_32 zw_182) rfl hd_X7_size ⟨rfl, rfl⟩ ⟨Nat.le_of_ble_eq_true rfl, Nat.le_of_ble_eq_true rfl⟩ 3 7 rfl rfl rfl hl.1 rfl (Nat.le_of_ble_eq_true rfl) dX3_fits_73 hP hD hS hA hK hG (isC := [3]) rfl (by decide +kernel) rfl ⟨Nat.zero_le _, Nat.zero_le _⟩ (pl := [none, none, none, some 0, none, none, none, none, none, none, none, none]) (nw := 12) rfl (by decide +kernel) (w2 := (ws_X3_fits cI cJ cZ cA q_X_guess q_X_guess_seen q_X_day q_X_now q_X_now_people q_X_day_talkers q_X_now_people_cells q_X_now_settings q_X_rule q_X_rule_known q_X_rule_stack q_X_rule_row u_X_guess_sets u_X_guess_least u_X_guess_surely u_X_guess_isStale u_X_now_talks u_X_now_dues u_X_now_sights u_X_now_rule u_X_now_stake u_X_now_people_limit u_X_day_clocks u_X_day_isStale u_X_rule_place u_X_rule_isStale N_X_now_people_cells a_X_guess_seen v_X_now_people_width v_X_now_people_size a_X_day_talkers a_X_now_people_cells a_X_now_settings v_X_rule_size v_X_rule_fault a_X_rule_known a_X_rule_stack a_X_rule_row)) rfl (st1 := [.int v2, .int x1, .int x3, .int x4, .int 0, .ref q_X_day]) rfl (fun H locs hP hD hS => ?_)
        obtain ⟨v4, hc5, hg⟩ := zbd hg
        refine zcallV (rest := []) S (c_X1_together l D cI cJ cZ cA ga q_X_day q_X_day_talkers q_X_now q_X_now_people q_X_now_people_cells q_X_now_settings q_X_rule q_X_rule_known q_X_rule_stack q_X_rule_row u_X_day_clocks u_X_day_isStale u_X_now_talks u_X_now_dues u_X_now_sights u_X_now_rule u_X_now_stake u_X_now_people_limit u_X_rule_place u_X_rule_isStale N_X_now_people_cells a_X_day_talkers v_X_now_people_width v_X_now_people_size a_X_now_people_cells a_X_now_settings v_X_rule_size v_X_rule_fault a_X_rule_known a_X_rule_stack a_X_rule_row 0 x4 x3 x1 v2 v4 hc5) (zgV zw_970 zw_647 zw_648 zw_38 zw_649) rfl hd_X1_together ⟨rfl, rfl⟩ ⟨Nat.le_of_ble_eq_true rfl, Nat.le_of_ble_eq_true rfl⟩ 4 1 rfl rfl rfl hl.1 rfl (Nat.le_of_ble_eq_true rfl) dX3_fits_76 hP hD hS hA hK hG (isC := [4, 5, 2, 3, 6, 7, 8, 9, 10, 11]) rfl (by decide +kernel) rfl ⟨Nat.zero_le _, Nat.zero_le _⟩ (pl := [none, none, some 2, some 3, some 0, some 1, some 4, some 5, some 6, some 7, some 8, some 9]) (nw := 12) rfl (by decide +kernel) (w2 := (ws_X3_fits cI cJ cZ cA q_X_guess q_X_guess_seen q_X_day q_X_now q_X_now_people q_X_day_talkers q_X_now_people_cells q_X_now_settings q_X_rule q_X_rule_known q_X_rule_stack q_X_rule_row u_X_guess_sets u_X_guess_least u_X_guess_surely u_X_guess_isStale u_X_now_talks u_X_now_dues u_X_now_sights u_X_now_rule u_X_now_stake u_X_now_people_limit u_X_day_clocks u_X_day_isStale u_X_rule_place u_X_rule_isStale N_X_now_people_cells a_X_guess_seen v_X_now_people_width v_X_now_people_size a_X_day_talkers a_X_now_people_cells a_X_now_settings v_X_rule_size v_X_rule_fault v4.2.1 v4.2.2 a_X_rule_row)) rfl (st1 := [.int v4.1]) rfl (fun H locs hP hD hS => ?_)
        refine lv_istore (lv' := [(5, .int v4.1), (0, .ref q_X_guess), (1, .int x1), (2, .int x2), (3, .int x3), (4, .int x4)]) hx hb dX3_fits_79 hl (by decide) rfl (fun ls hl => ?_)
        refine lv_iload_n hx hb dX3_fits_81 rfl (lv_at hl 4 rfl) ?_
        refine lv_iload hx hb dX3_fits_82 (lv_at hl 0 rfl) ?_
        refine lv_aload_n hx hb dX3_fits_84 rfl (lv_at hl 1 rfl) ?_
        refine zget (C := RX3) (T := TX3) (N := 7) S hK hP 0 rfl rfl 0 (Nat.le_of_ble_eq_true rfl) zf_3 zw_143 rfl dX3_fits_85 ?_
        refine zget (C := RX9) (T := TX9) (N := 7) S hK hP 2 rfl rfl 5 (Nat.le_of_ble_eq_true rfl) zf_9 zw_968 rfl dX3_fits_88 ?_
        refine lv_iconst (v := 0) hx hb dX3_fits_91 (by decide) ?_
        refine ziald hx hb hK hP 7 0 rfl rfl (j := 0) (zin (by decide)) (by decide) dX3_fits_92 ?_
        refine va_mmin hx hb (S.2.2.1.trans hl.1.symm) S.2.2.2.1 (ht _ zw_969) (ht _ zw_96) (ht _ zw_93) (ht _ zw_97) (Nat.le_of_ble_eq_true rfl) (Nat.le_of_ble_eq_true rfl) (Nat.zero_le _) (Nat.zero_le _) dX3_fits_93 ?_
        refine lv_iadd hx hb dX3_fits_96 ?_
        refine lv_istore_n (lv' := [(3, .int (x3 + (if (a_X_now_settings 0) < v4.1 then (a_X_now_settings 0) else v4.1))), (5, .int v4.1), (0, .ref q_X_guess), (1, .int x1), (2, .int x2), (4, .int x4)]) hx hb dX3_fits_97 rfl hl (by decide) rfl (fun ls hl => ?_)
        exact B98 k5 hk5 (x3 + (if (a_X_now_settings 0) < v4.1 then (a_X_now_settings 0) else v4.1)) x4 v4.2.1 v4.2.2 _ _ _ (lv_sub hl [2, 3, 4, 0, 5] rfl) hP hD hS hg
  have B5 : ∀  (n : Nat) (x3 : Int32) (x4 : Int32) (a_X_rule_known : Nat → Int32) (a_X_rule_stack : Nat → Int64) (H : Heap) (locs : List Loc) (ls : Array Slot) (hl : lv_has ls 6 [(0, .ref q_X_guess), (1, .int x1), (2, .int x2), (3, .int x3), (4, .int x4)]) (hP : va_P D vwCl (ws_X3_fits cI cJ cZ cA q_X_guess q_X_guess_seen q_X_day q_X_now q_X_now_people q_X_day_talkers q_X_now_people_cells q_X_now_settings q_X_rule q_X_rule_known q_X_rule_stack q_X_rule_row u_X_guess_sets u_X_guess_least u_X_guess_surely u_X_guess_isStale u_X_now_talks u_X_now_dues u_X_now_sights u_X_now_rule u_X_now_stake u_X_now_people_limit u_X_day_clocks u_X_day_isStale u_X_rule_place u_X_rule_isStale N_X_now_people_cells a_X_guess_seen v_X_now_people_width v_X_now_people_size a_X_day_talkers a_X_now_people_cells a_X_now_settings v_X_rule_size v_X_rule_fault a_X_rule_known a_X_rule_stack a_X_rule_row) H) (hD : va_D A (ws_X3_fits cI cJ cZ cA q_X_guess q_X_guess_seen q_X_day q_X_now q_X_now_people q_X_day_talkers q_X_now_people_cells q_X_now_settings q_X_rule q_X_rule_known q_X_rule_stack q_X_rule_row u_X_guess_sets u_X_guess_least u_X_guess_surely u_X_guess_isStale u_X_now_talks u_X_now_dues u_X_now_sights u_X_now_rule u_X_now_stake u_X_now_people_limit u_X_day_clocks u_X_day_isStale u_X_rule_place u_X_rule_isStale N_X_now_people_cells a_X_guess_seen v_X_now_people_width v_X_now_people_size a_X_day_talkers a_X_now_people_cells a_X_now_settings v_X_rule_size v_X_rule_fault a_X_rule_known a_X_rule_stack a_X_rule_row)) (hS : va_S A s.heap H locs), g_X3_fits_5 N_X_now_people_cells a_X_guess_seen v_X_now_people_width v_X_now_people_size a_X_day_talkers a_X_now_people_cells a_X_now_settings v_X_rule_size v_X_rule_fault a_X_rule_row x1 x2 n x3 x4 a_X_rule_known a_X_rule_stack = some o → W p l e rm_X3_fits s m args below meth c H locs 0 0 Q (F0 m 5 ls []) := by
    intro  n
    induction n with
    | zero => intro x3 x4 a_X_rule_known a_X_rule_stack H locs ls hl hP hD hS hg; exact nomatch (show (none : Option (Int32 × (Nat → Int32) × (Nat → Int64))) = some o from hg)
    | succ n ih =>
      intro x3 x4 a_X_rule_known a_X_rule_stack H locs ls hl hP hD hS hg
      have hg : g_X3_fits_5b N_X_now_people_cells a_X_guess_seen v_X_now_people_width v_X_now_people_size a_X_day_talkers a_X_now_people_cells a_X_now_settings v_X_rule_size v_X_rule_fault a_X_rule_row x1 x2 (g_X3_fits_5 N_X_now_people_cells a_X_guess_seen v_X_now_people_width v_X_now_people_size a_X_day_talkers a_X_now_people_cells a_X_now_settings v_X_rule_size v_X_rule_fault a_X_rule_row x1 x2 n) x3 x4 a_X_rule_known a_X_rule_stack = some o := hg
      refine lv_iload hx hb dX3_fits_5 (lv_at hl 4 rfl) ?_
      refine lv_iload_n hx hb dX3_fits_7 rfl (lv_at hl 2 rfl) ?_
      refine lv_icmp_gt (tgt := 104) hx hb dX3_fits_8 (by decide) (fun h8 => ?_) (fun h8 => ?_)
      · have hg := zp hg h8
        refine lv_iconst (v := 1) hx hb dX3_fits_104 (by decide) ?_
        exact hret 1 a_X_rule_known a_X_rule_stack hg (zb01 (Or.inr rfl)) _ _ _ _ hP hS dX3_fits_105
      · have hg := zn hg h8
        refine lv_iload hx hb dX3_fits_11 (lv_at hl 4 rfl) ?_
        refine lv_sipush (v := 240) hx hb dX3_fits_13 (by decide) ?_
        refine lv_icmp_gt (tgt := 104) hx hb dX3_fits_16 (by decide) (fun h16 => ?_) (fun h16 => ?_)
        · have hg := zp hg h16
          refine lv_iconst (v := 1) hx hb dX3_fits_104 (by decide) ?_
          exact hret 1 a_X_rule_known a_X_rule_stack hg (zb01 (Or.inr rfl)) _ _ _ _ hP hS dX3_fits_105
        · have hg := zn hg h16
          refine lv_aload_n hx hb dX3_fits_19 rfl (lv_at hl 0 rfl) ?_
          refine zget (C := RX3) (T := TX3) (N := 7) S hK hP 0 rfl rfl 2 (Nat.le_of_ble_eq_true rfl) zf_3 zw_141 rfl dX3_fits_20 ?_
          refine lv_iload hx hb dX3_fits_23 (lv_at hl 4 rfl) ?_
          obtain ⟨h1, hg⟩ := zck hg
          refine ziald hx hb hK hP 1 0 rfl rfl (j := (x4.toNatClampNeg)) h1 rfl dX3_fits_25 ?_
          refine lv_iconst (v := (-1)) hx hb dX3_fits_26 (by decide) ?_
          refine lv_icmp_eq (tgt := 43) hx hb dX3_fits_27 (by decide) (fun h27 => ?_) (fun h27 => ?_)
          · have hg := zp hg h27
            exact B43 (g_X3_fits_5 N_X_now_people_cells a_X_guess_seen v_X_now_people_width v_X_now_people_size a_X_day_talkers a_X_now_people_cells a_X_now_settings v_X_rule_size v_X_rule_fault a_X_rule_row x1 x2 n) ih x3 x4 a_X_rule_known a_X_rule_stack _ _ _ hl hP hD hS hg
          · have hg := zn hg h27
            refine lv_aload_n hx hb dX3_fits_30 rfl (lv_at hl 0 rfl) ?_
            refine zget (C := RX3) (T := TX3) (N := 7) S hK hP 0 rfl rfl 2 (Nat.le_of_ble_eq_true rfl) zf_3 zw_141 rfl dX3_fits_31 ?_
            refine lv_iload hx hb dX3_fits_34 (lv_at hl 4 rfl) ?_
            obtain ⟨h6, hg⟩ := zck hg
            refine ziald hx hb hK hP 1 0 rfl rfl (j := (x4.toNatClampNeg)) h6 rfl dX3_fits_36 ?_
            refine lv_iload_n hx hb dX3_fits_37 rfl (lv_at hl 3 rfl) ?_
            refine lv_icmp_eq (tgt := 43) hx hb dX3_fits_38 (by decide) (fun h38 => ?_) (fun h38 => ?_)
            · have hg := zp hg h38
              exact B43 (g_X3_fits_5 N_X_now_people_cells a_X_guess_seen v_X_now_people_width v_X_now_people_size a_X_day_talkers a_X_now_people_cells a_X_now_settings v_X_rule_size v_X_rule_fault a_X_rule_row x1 x2 n) ih x3 x4 a_X_rule_known a_X_rule_stack _ _ _ hl hP hD hS hg
            · have hg := zn hg h38
              refine lv_iconst (v := 0) hx hb dX3_fits_41 (by decide) ?_
              exact hret 0 a_X_rule_known a_X_rule_stack hg (zb01 (Or.inl rfl)) _ _ _ _ hP hS dX3_fits_42
  refine lv_iconst (v := 0) hx hb dX3_fits_0 (by decide) ?_
  refine lv_istore_n (lv' := [(3, .int 0), (0, .ref q_X_guess), (1, .int x1), (2, .int x2)]) hx hb dX3_fits_1 rfl hl (by decide) rfl (fun ls hl => ?_)
  refine lv_iconst (v := 0) hx hb dX3_fits_2 (by decide) ?_
  refine lv_istore (lv' := [(4, .int 0), (3, .int 0), (0, .ref q_X_guess), (1, .int x1), (2, .int x2)]) hx hb dX3_fits_3 hl (by decide) rfl (fun ls hl => ?_)
  exact B5 zF 0 0 a_X_rule_known a_X_rule_stack _ _ _ (lv_sub hl [2, 3, 4, 1, 0] rfl) hP hD hS hg

/-! SpokenClock$Guess.noteSights()Z -/
abbrev ws_X3_noteSights (cI cJ cZ cA : ClassId) (q_X_guess q_X_guess_seen q_X_now q_X_now_sights q_X_now_sights_cells : Nat) (u_X_guess_day : Value) (u_X_guess_sets : Value) (u_X_guess_least : Value) (u_X_guess_surely : Value) (u_X_guess_isStale : Value) (u_X_now_people : Value) (u_X_now_talks : Value) (u_X_now_dues : Value) (u_X_now_rule : Value) (u_X_now_settings : Value) (u_X_now_stake : Value) (u_X_now_sights_limit : Value) (N_X_now_sights_cells : Nat) (a_X_guess_seen : Nat → Int32) (v_X_now_sights_width : Int32) (v_X_now_sights_size : Int32) (a_X_now_sights_cells : Nat → Int32) : va_W := [(q_X_guess, .inr (3, [.ref q_X_now, u_X_guess_day, .ref q_X_guess_seen, u_X_guess_sets, u_X_guess_least, u_X_guess_surely, u_X_guess_isStale])), (q_X_guess_seen, .inl (cI, 241, .inl a_X_guess_seen)), (q_X_now, .inr (9, [u_X_now_people, u_X_now_talks, u_X_now_dues, .ref q_X_now_sights, u_X_now_rule, u_X_now_settings, u_X_now_stake])), (q_X_now_sights, .inr (7, [.int v_X_now_sights_width, u_X_now_sights_limit, .ref q_X_now_sights_cells, .int v_X_now_sights_size])), (q_X_now_sights_cells, .inl (cI, N_X_now_sights_cells, .inl a_X_now_sights_cells))]
abbrev rm_X3_noteSights : Room := { frames := 1, cells := 0, slots := 0, locals := 23 }
def g_X3_noteSights_90 (N_X_now_sights_cells : Nat) (v_X_now_sights_width : Int32) (v_X_now_sights_size : Int32) (a_X_now_sights_cells : Nat → Int32) (k10 : Int32 → (Nat → Int32) → Option (Int32 × (Nat → Int32))) (x1 : Int32) (a_X_guess_seen : Nat → Int32) : Option (Int32 × (Nat → Int32)) :=
  k10 (x1 + 1) a_X_guess_seen
def g_X3_noteSights_83 (N_X_now_sights_cells : Nat) (v_X_now_sights_width : Int32) (v_X_now_sights_size : Int32) (a_X_now_sights_cells : Nat → Int32) (k10 : Int32 → (Nat → Int32) → Option (Int32 × (Nat → Int32))) (x1 : Int32) (x2 : Int32) (x3 : Int32) (a_X_guess_seen : Nat → Int32) : Option (Int32 × (Nat → Int32)) :=
  if x2 < 0 ∨ 241 ≤ x2.toNatClampNeg then none else
  g_X3_noteSights_90 N_X_now_sights_cells v_X_now_sights_width v_X_now_sights_size a_X_now_sights_cells k10 x1 (upd a_X_guess_seen (x2.toNatClampNeg) x3)
def g_X3_noteSights_10b (N_X_now_sights_cells : Nat) (v_X_now_sights_width : Int32) (v_X_now_sights_size : Int32) (a_X_now_sights_cells : Nat → Int32) (k10 : Int32 → (Nat → Int32) → Option (Int32 × (Nat → Int32))) (x1 : Int32) (a_X_guess_seen : Nat → Int32) : Option (Int32 × (Nat → Int32)) :=
  (g_X7_size v_X_now_sights_size).bind fun v3 =>
  if v3 ≤ x1 then (
    some (1, a_X_guess_seen)
  ) else (
    (g_X7_at N_X_now_sights_cells v_X_now_sights_width v_X_now_sights_size a_X_now_sights_cells x1 0).bind fun v5 =>
    (g_X7_at N_X_now_sights_cells v_X_now_sights_width v_X_now_sights_size a_X_now_sights_cells x1 1).bind fun v7 =>
    (g_X10_isIn v5 0 240).bind fun v9 =>
    if v9 = 0 then (
      g_X3_noteSights_90 N_X_now_sights_cells v_X_now_sights_width v_X_now_sights_size a_X_now_sights_cells k10 x1 a_X_guess_seen
    ) else (
      if v5 < 0 ∨ 241 ≤ v5.toNatClampNeg then none else
      if (a_X_guess_seen (v5.toNatClampNeg)) = (-1) then (
        g_X3_noteSights_83 N_X_now_sights_cells v_X_now_sights_width v_X_now_sights_size a_X_now_sights_cells k10 x1 v5 v7 a_X_guess_seen
      ) else (
        if v5 < 0 ∨ 241 ≤ v5.toNatClampNeg then none else
        if (a_X_guess_seen (v5.toNatClampNeg)) = v7 then (
          g_X3_noteSights_83 N_X_now_sights_cells v_X_now_sights_width v_X_now_sights_size a_X_now_sights_cells k10 x1 v5 v7 a_X_guess_seen
        ) else (
          some (0, a_X_guess_seen)
        )
      )
    )
  )
def g_X3_noteSights_10 (N_X_now_sights_cells : Nat) (v_X_now_sights_width : Int32) (v_X_now_sights_size : Int32) (a_X_now_sights_cells : Nat → Int32) : Nat → Int32 → (Nat → Int32) → Option (Int32 × (Nat → Int32))
  | 0, _, _ => none
  | n + 1, x1, a_X_guess_seen => g_X3_noteSights_10b N_X_now_sights_cells v_X_now_sights_width v_X_now_sights_size a_X_now_sights_cells (g_X3_noteSights_10 N_X_now_sights_cells v_X_now_sights_width v_X_now_sights_size a_X_now_sights_cells n) x1 a_X_guess_seen
def g_X3_noteSights (N_X_now_sights_cells : Nat) (v_X_now_sights_width : Int32) (v_X_now_sights_size : Int32) (a_X_now_sights_cells : Nat → Int32) (a_X_guess_seen : Nat → Int32) : Option (Int32 × (Nat → Int32)) :=
  (g_J7_fill_53178 241 (-1) a_X_guess_seen).bind fun v1 =>
  g_X3_noteSights_10 N_X_now_sights_cells v_X_now_sights_width v_X_now_sights_size a_X_now_sights_cells zF 0 v1
theorem hd_X3_noteSights : yX3_noteSights.cls = RX3 ∧ yX3_noteSights.cls ≠ "java/lang/invoke/MethodHandle" ∧ yX3_noteSights.cls ≠ "java/lang/invoke/VarHandle" ∧ (parseMethodDescriptor yX3_noteSights.desc).map (fun d => d.parameters.length) = some 0 := by decide +kernel
set_option maxHeartbeats 4000000 in
set_option maxRecDepth 100000 in
theorem c_X3_noteSights (l : Launch) (D : va_G) (cI cJ cZ cA : ClassId) (ga : Nat → Nat) (q_X_guess q_X_guess_seen q_X_now q_X_now_sights q_X_now_sights_cells : Nat) (u_X_guess_day : Value) (u_X_guess_sets : Value) (u_X_guess_least : Value) (u_X_guess_surely : Value) (u_X_guess_isStale : Value) (u_X_now_people : Value) (u_X_now_talks : Value) (u_X_now_dues : Value) (u_X_now_rule : Value) (u_X_now_settings : Value) (u_X_now_stake : Value) (u_X_now_sights_limit : Value) (N_X_now_sights_cells : Nat) (a_X_guess_seen : Nat → Int32) (v_X_now_sights_width : Int32) (v_X_now_sights_size : Int32) (a_X_now_sights_cells : Nat → Int32) (o : Int32 × (Nat → Int32)) (hg : g_X3_noteSights N_X_now_sights_cells v_X_now_sights_width v_X_now_sights_size a_X_now_sights_cells a_X_guess_seen = some o) : zM l yX3_noteSights (Cond.code yX3_noteSights cX3_noteSights 4 (some .boolean) :: wsL_law) rm_X3_noteSights D (zTy cI cJ cZ cA) ga [.ref q_X_guess] (ws_X3_noteSights cI cJ cZ cA q_X_guess q_X_guess_seen q_X_now q_X_now_sights q_X_now_sights_cells u_X_guess_day u_X_guess_sets u_X_guess_least u_X_guess_surely u_X_guess_isStale u_X_now_people u_X_now_talks u_X_now_dues u_X_now_rule u_X_now_settings u_X_now_stake u_X_now_sights_limit N_X_now_sights_cells a_X_guess_seen v_X_now_sights_width v_X_now_sights_size a_X_now_sights_cells) (ws_X3_noteSights cI cJ cZ cA q_X_guess q_X_guess_seen q_X_now q_X_now_sights q_X_now_sights_cells u_X_guess_day u_X_guess_sets u_X_guess_least u_X_guess_surely u_X_guess_isStale u_X_now_people u_X_now_talks u_X_now_dues u_X_now_rule u_X_now_settings u_X_now_stake u_X_now_sights_limit N_X_now_sights_cells o.2 v_X_now_sights_width v_X_now_sights_size a_X_now_sights_cells) (some (.int o.1)) := by
  refine zenterN (own := RX3) (by decide) rfl rfl (Nat.le_of_ble_eq_true rfl) ?_
  intro p e s m args below meth c A ls Q S hA hK hG hl hP hD hS hret0
  have hx := S.1
  have hb := S.2.1
  have ht : ∀ w, w ∈ wsL_law → w.before args s = true := fun w h => S.2.2.2.2 w (List.mem_cons_of_mem _ h)
  have hret : ∀ (r9 : Int32) (a_X_guess_seen : Nat → Int32), (some (r9, a_X_guess_seen) : Option (Int32 × (Nat → Int32))) = some o → narrow .boolean (.int r9) = .int r9 → ∀ (H : Heap) (locs : List Loc) (pc : Nat) (ls : Array Slot), va_P D vwCl (ws_X3_noteSights cI cJ cZ cA q_X_guess q_X_guess_seen q_X_now q_X_now_sights q_X_now_sights_cells u_X_guess_day u_X_guess_sets u_X_guess_least u_X_guess_surely u_X_guess_isStale u_X_now_people u_X_now_talks u_X_now_dues u_X_now_rule u_X_now_settings u_X_now_stake u_X_now_sights_limit N_X_now_sights_cells a_X_guess_seen v_X_now_sights_width v_X_now_sights_size a_X_now_sights_cells) H → va_S A s.heap H locs → decode cX3_noteSights pc = .ok (.ireturn, 1) → W p l e rm_X3_noteSights s m args below meth c H locs 0 0 Q (F0 m pc ls [.int r9]) := by
    intro r9 a_X_guess_seen he; cases he; exact hret0
  have hl : lv_has ls 4 [(0, .ref q_X_guess)] := hl
  have B90 : ∀ (k10 : Int32 → (Nat → Int32) → Option (Int32 × (Nat → Int32))) (hk10 : ∀ (x1 : Int32) (a_X_guess_seen : Nat → Int32) (H : Heap) (locs : List Loc) (ls : Array Slot) (hl : lv_has ls 4 [(0, .ref q_X_guess), (1, .int x1)]) (hP : va_P D vwCl (ws_X3_noteSights cI cJ cZ cA q_X_guess q_X_guess_seen q_X_now q_X_now_sights q_X_now_sights_cells u_X_guess_day u_X_guess_sets u_X_guess_least u_X_guess_surely u_X_guess_isStale u_X_now_people u_X_now_talks u_X_now_dues u_X_now_rule u_X_now_settings u_X_now_stake u_X_now_sights_limit N_X_now_sights_cells a_X_guess_seen v_X_now_sights_width v_X_now_sights_size a_X_now_sights_cells) H) (hD : va_D A (ws_X3_noteSights cI cJ cZ cA q_X_guess q_X_guess_seen q_X_now q_X_now_sights q_X_now_sights_cells u_X_guess_day u_X_guess_sets u_X_guess_least u_X_guess_surely u_X_guess_isStale u_X_now_people u_X_now_talks u_X_now_dues u_X_now_rule u_X_now_settings u_X_now_stake u_X_now_sights_limit N_X_now_sights_cells a_X_guess_seen v_X_now_sights_width v_X_now_sights_size a_X_now_sights_cells)) (hS : va_S A s.heap H locs), k10 x1 a_X_guess_seen = some o → W p l e rm_X3_noteSights s m args below meth c H locs 0 0 Q (F0 m 10 ls [])) (x1 : Int32) (a_X_guess_seen : Nat → Int32) (H : Heap) (locs : List Loc) (ls : Array Slot) (hl : lv_has ls 4 [(0, .ref q_X_guess), (1, .int x1)]) (hP : va_P D vwCl (ws_X3_noteSights cI cJ cZ cA q_X_guess q_X_guess_seen q_X_now q_X_now_sights q_X_now_sights_cells u_X_guess_day u_X_guess_sets u_X_guess_least u_X_guess_surely u_X_guess_isStale u_X_now_people u_X_now_talks u_X_now_dues u_X_now_rule u_X_now_settings u_X_now_stake u_X_now_sights_limit N_X_now_sights_cells a_X_guess_seen v_X_now_sights_width v_X_now_sights_size a_X_now_sights_cells) H) (hD : va_D A (ws_X3_noteSights cI cJ cZ cA q_X_guess q_X_guess_seen q_X_now q_X_now_sights q_X_now_sights_cells u_X_guess_day u_X_guess_sets u_X_guess_least u_X_guess_surely u_X_guess_isStale u_X_now_people u_X_now_talks u_X_now_dues u_X_now_rule u_X_now_settings u_X_now_stake u_X_now_sights_limit N_X_now_sights_cells a_X_guess_seen v_X_now_sights_width v_X_now_sights_size a_X_now_sights_cells)) (hS : va_S A s.heap H locs), g_X3_noteSights_90 N_X_now_sights_cells v_X_now_sights_width v_X_now_sights_size a_X_now_sights_cells k10 x1 a_X_guess_seen = some o → W p l e rm_X3_noteSights s m args below meth c H locs 0 0 Q (F0 m 90 ls []) := by
    intro k10 hk10 x1 a_X_guess_seen H locs ls hl hP hD hS hg
    refine lv_iinc (k := 1) (v := x1 + 1) (lv' := [(1, .int (x1 + 1)), (0, .ref q_X_guess)]) hx hb dX3_noteSights_90 hl rfl (zinc (by decide)) (by decide) rfl (fun ls hl => ?_)
    refine lv_goto (tgt := 10) hx hb dX3_noteSights_93 (by decide) ?_
    exact hk10 (x1 + 1) a_X_guess_seen _ _ _ (lv_sub hl [1, 0] rfl) hP hD hS hg
  have B83 : ∀ (k10 : Int32 → (Nat → Int32) → Option (Int32 × (Nat → Int32))) (hk10 : ∀ (x1 : Int32) (a_X_guess_seen : Nat → Int32) (H : Heap) (locs : List Loc) (ls : Array Slot) (hl : lv_has ls 4 [(0, .ref q_X_guess), (1, .int x1)]) (hP : va_P D vwCl (ws_X3_noteSights cI cJ cZ cA q_X_guess q_X_guess_seen q_X_now q_X_now_sights q_X_now_sights_cells u_X_guess_day u_X_guess_sets u_X_guess_least u_X_guess_surely u_X_guess_isStale u_X_now_people u_X_now_talks u_X_now_dues u_X_now_rule u_X_now_settings u_X_now_stake u_X_now_sights_limit N_X_now_sights_cells a_X_guess_seen v_X_now_sights_width v_X_now_sights_size a_X_now_sights_cells) H) (hD : va_D A (ws_X3_noteSights cI cJ cZ cA q_X_guess q_X_guess_seen q_X_now q_X_now_sights q_X_now_sights_cells u_X_guess_day u_X_guess_sets u_X_guess_least u_X_guess_surely u_X_guess_isStale u_X_now_people u_X_now_talks u_X_now_dues u_X_now_rule u_X_now_settings u_X_now_stake u_X_now_sights_limit N_X_now_sights_cells a_X_guess_seen v_X_now_sights_width v_X_now_sights_size a_X_now_sights_cells)) (hS : va_S A s.heap H locs), k10 x1 a_X_guess_seen = some o → W p l e rm_X3_noteSights s m args below meth c H locs 0 0 Q (F0 m 10 ls [])) (x1 : Int32) (x2 : Int32) (x3 : Int32) (a_X_guess_seen : Nat → Int32) (H : Heap) (locs : List Loc) (ls : Array Slot) (hl : lv_has ls 4 [(0, .ref q_X_guess), (1, .int x1), (2, .int x2), (3, .int x3)]) (hP : va_P D vwCl (ws_X3_noteSights cI cJ cZ cA q_X_guess q_X_guess_seen q_X_now q_X_now_sights q_X_now_sights_cells u_X_guess_day u_X_guess_sets u_X_guess_least u_X_guess_surely u_X_guess_isStale u_X_now_people u_X_now_talks u_X_now_dues u_X_now_rule u_X_now_settings u_X_now_stake u_X_now_sights_limit N_X_now_sights_cells a_X_guess_seen v_X_now_sights_width v_X_now_sights_size a_X_now_sights_cells) H) (hD : va_D A (ws_X3_noteSights cI cJ cZ cA q_X_guess q_X_guess_seen q_X_now q_X_now_sights q_X_now_sights_cells u_X_guess_day u_X_guess_sets u_X_guess_least u_X_guess_surely u_X_guess_isStale u_X_now_people u_X_now_talks u_X_now_dues u_X_now_rule u_X_now_settings u_X_now_stake u_X_now_sights_limit N_X_now_sights_cells a_X_guess_seen v_X_now_sights_width v_X_now_sights_size a_X_now_sights_cells)) (hS : va_S A s.heap H locs), g_X3_noteSights_83 N_X_now_sights_cells v_X_now_sights_width v_X_now_sights_size a_X_now_sights_cells k10 x1 x2 x3 a_X_guess_seen = some o → W p l e rm_X3_noteSights s m args below meth c H locs 0 0 Q (F0 m 83 ls []) := by
    intro k10 hk10 x1 x2 x3 a_X_guess_seen H locs ls hl hP hD hS hg
    refine lv_aload_n hx hb dX3_noteSights_83 rfl (lv_at hl 0 rfl) ?_
    refine zget (C := RX3) (T := TX3) (N := 7) S hK hP 0 rfl rfl 2 (Nat.le_of_ble_eq_true rfl) zf_3 zw_141 rfl dX3_noteSights_84 ?_
    refine lv_iload_n hx hb dX3_noteSights_87 rfl (lv_at hl 2 rfl) ?_
    refine lv_iload_n hx hb dX3_noteSights_88 rfl (lv_at hl 3 rfl) ?_
    obtain ⟨h12, hg⟩ := zck hg
    refine ziast hx hb hK hP hD hS 1 0 rfl rfl (j := (x2.toNatClampNeg)) h12 rfl dX3_noteSights_89 (w2 := (ws_X3_noteSights cI cJ cZ cA q_X_guess q_X_guess_seen q_X_now q_X_now_sights q_X_now_sights_cells u_X_guess_day u_X_guess_sets u_X_guess_least u_X_guess_surely u_X_guess_isStale u_X_now_people u_X_now_talks u_X_now_dues u_X_now_rule u_X_now_settings u_X_now_stake u_X_now_sights_limit N_X_now_sights_cells (upd a_X_guess_seen (x2.toNatClampNeg) x3) v_X_now_sights_width v_X_now_sights_size a_X_now_sights_cells)) rfl (fun H locs hP hD hS => ?_)
    exact B90 k10 hk10 x1 (upd a_X_guess_seen (x2.toNatClampNeg) x3) _ _ _ (lv_sub hl [0, 1] rfl) hP hD hS hg
  have B10 : ∀  (n : Nat) (x1 : Int32) (a_X_guess_seen : Nat → Int32) (H : Heap) (locs : List Loc) (ls : Array Slot) (hl : lv_has ls 4 [(0, .ref q_X_guess), (1, .int x1)]) (hP : va_P D vwCl (ws_X3_noteSights cI cJ cZ cA q_X_guess q_X_guess_seen q_X_now q_X_now_sights q_X_now_sights_cells u_X_guess_day u_X_guess_sets u_X_guess_least u_X_guess_surely u_X_guess_isStale u_X_now_people u_X_now_talks u_X_now_dues u_X_now_rule u_X_now_settings u_X_now_stake u_X_now_sights_limit N_X_now_sights_cells a_X_guess_seen v_X_now_sights_width v_X_now_sights_size a_X_now_sights_cells) H) (hD : va_D A (ws_X3_noteSights cI cJ cZ cA q_X_guess q_X_guess_seen q_X_now q_X_now_sights q_X_now_sights_cells u_X_guess_day u_X_guess_sets u_X_guess_least u_X_guess_surely u_X_guess_isStale u_X_now_people u_X_now_talks u_X_now_dues u_X_now_rule u_X_now_settings u_X_now_stake u_X_now_sights_limit N_X_now_sights_cells a_X_guess_seen v_X_now_sights_width v_X_now_sights_size a_X_now_sights_cells)) (hS : va_S A s.heap H locs), g_X3_noteSights_10 N_X_now_sights_cells v_X_now_sights_width v_X_now_sights_size a_X_now_sights_cells n x1 a_X_guess_seen = some o → W p l e rm_X3_noteSights s m args below meth c H locs 0 0 Q (F0 m 10 ls []) := by
    intro  n
    induction n with
    | zero => intro x1 a_X_guess_seen H locs ls hl hP hD hS hg; exact nomatch (show (none : Option (Int32 × (Nat → Int32))) = some o from hg)
    | succ n ih =>
      intro x1 a_X_guess_seen H locs ls hl hP hD hS hg
      have hg : g_X3_noteSights_10b N_X_now_sights_cells v_X_now_sights_width v_X_now_sights_size a_X_now_sights_cells (g_X3_noteSights_10 N_X_now_sights_cells v_X_now_sights_width v_X_now_sights_size a_X_now_sights_cells n) x1 a_X_guess_seen = some o := hg
      refine lv_iload_n hx hb dX3_noteSights_10 rfl (lv_at hl 1 rfl) ?_
      refine lv_aload_n hx hb dX3_noteSights_11 rfl (lv_at hl 0 rfl) ?_
      refine zget (C := RX3) (T := TX3) (N := 7) S hK hP 0 rfl rfl 0 (Nat.le_of_ble_eq_true rfl) zf_3 zw_143 rfl dX3_noteSights_12 ?_
      refine zget (C := RX9) (T := TX9) (N := 7) S hK hP 2 rfl rfl 3 (Nat.le_of_ble_eq_true rfl) zf_9 zw_950 rfl dX3_noteSights_15 ?_
      obtain ⟨v3, hc4, hg⟩ := zbd hg
      refine zcallV (rest := [.int x1]) S (c_X7_size l D cI cJ cZ cA ga q_X_now_sights (.int v_X_now_sights_width) u_X_now_sights_limit (.ref q_X_now_sights_cells) v_X_now_sights_size v3 hc4) (zgV zw_956 zw_180 zw_181 zw_32 zw_182) rfl hd_X7_size ⟨rfl, rfl⟩ ⟨Nat.le_of_ble_eq_true rfl, Nat.le_of_ble_eq_true rfl⟩ 3 7 rfl rfl rfl hl.1 rfl (Nat.le_of_ble_eq_true rfl) dX3_noteSights_18 hP hD hS hA hK hG (isC := [3]) rfl (by decide +kernel) rfl ⟨Nat.zero_le _, Nat.zero_le _⟩ (pl := [none, none, none, some 0, none]) (nw := 5) rfl (by decide +kernel) (w2 := (ws_X3_noteSights cI cJ cZ cA q_X_guess q_X_guess_seen q_X_now q_X_now_sights q_X_now_sights_cells u_X_guess_day u_X_guess_sets u_X_guess_least u_X_guess_surely u_X_guess_isStale u_X_now_people u_X_now_talks u_X_now_dues u_X_now_rule u_X_now_settings u_X_now_stake u_X_now_sights_limit N_X_now_sights_cells a_X_guess_seen v_X_now_sights_width v_X_now_sights_size a_X_now_sights_cells)) rfl (st1 := [.int v3, .int x1]) rfl (fun H locs hP hD hS => ?_)
      refine lv_icmp_ge (tgt := 96) hx hb dX3_noteSights_21 (by decide) (fun h21 => ?_) (fun h21 => ?_)
      · have hg := zp hg h21
        refine lv_iconst (v := 1) hx hb dX3_noteSights_96 (by decide) ?_
        exact hret 1 a_X_guess_seen hg (zb01 (Or.inr rfl)) _ _ _ _ hP hS dX3_noteSights_97
      · have hg := zn hg h21
        refine lv_aload_n hx hb dX3_noteSights_24 rfl (lv_at hl 0 rfl) ?_
        refine zget (C := RX3) (T := TX3) (N := 7) S hK hP 0 rfl rfl 0 (Nat.le_of_ble_eq_true rfl) zf_3 zw_143 rfl dX3_noteSights_25 ?_
        refine zget (C := RX9) (T := TX9) (N := 7) S hK hP 2 rfl rfl 3 (Nat.le_of_ble_eq_true rfl) zf_9 zw_950 rfl dX3_noteSights_28 ?_
        refine lv_iload_n hx hb dX3_noteSights_31 rfl (lv_at hl 1 rfl) ?_
        refine lv_iconst (v := 0) hx hb dX3_noteSights_32 (by decide) ?_
        obtain ⟨v5, hc6, hg⟩ := zbd hg
        refine zcallV (rest := []) S (c_X7_at l D cI cJ cZ cA ga q_X_now_sights q_X_now_sights_cells u_X_now_sights_limit N_X_now_sights_cells v_X_now_sights_width v_X_now_sights_size a_X_now_sights_cells x1 0 v5 hc6) (zgV zw_957 zw_353 zw_354 zw_32 zw_355) rfl hd_X7_at ⟨rfl, rfl⟩ ⟨Nat.le_of_ble_eq_true rfl, Nat.le_of_ble_eq_true rfl⟩ 3 7 rfl rfl rfl hl.1 rfl (Nat.le_of_ble_eq_true rfl) dX3_noteSights_33 hP hD hS hA hK hG (isC := [3, 4]) rfl (by decide +kernel) rfl ⟨Nat.zero_le _, Nat.zero_le _⟩ (pl := [none, none, none, some 0, some 1]) (nw := 5) rfl (by decide +kernel) (w2 := (ws_X3_noteSights cI cJ cZ cA q_X_guess q_X_guess_seen q_X_now q_X_now_sights q_X_now_sights_cells u_X_guess_day u_X_guess_sets u_X_guess_least u_X_guess_surely u_X_guess_isStale u_X_now_people u_X_now_talks u_X_now_dues u_X_now_rule u_X_now_settings u_X_now_stake u_X_now_sights_limit N_X_now_sights_cells a_X_guess_seen v_X_now_sights_width v_X_now_sights_size a_X_now_sights_cells)) rfl (st1 := [.int v5]) rfl (fun H locs hP hD hS => ?_)
        refine lv_istore_n (lv' := [(2, .int v5), (0, .ref q_X_guess), (1, .int x1)]) hx hb dX3_noteSights_36 rfl hl (by decide) rfl (fun ls hl => ?_)
        refine lv_aload_n hx hb dX3_noteSights_37 rfl (lv_at hl 1 rfl) ?_
        refine zget (C := RX3) (T := TX3) (N := 7) S hK hP 0 rfl rfl 0 (Nat.le_of_ble_eq_true rfl) zf_3 zw_143 rfl dX3_noteSights_38 ?_
        refine zget (C := RX9) (T := TX9) (N := 7) S hK hP 2 rfl rfl 3 (Nat.le_of_ble_eq_true rfl) zf_9 zw_950 rfl dX3_noteSights_41 ?_
        refine lv_iload_n hx hb dX3_noteSights_44 rfl (lv_at hl 2 rfl) ?_
        refine lv_iconst (v := 1) hx hb dX3_noteSights_45 (by decide) ?_
        obtain ⟨v7, hc8, hg⟩ := zbd hg
        refine zcallV (rest := []) S (c_X7_at l D cI cJ cZ cA ga q_X_now_sights q_X_now_sights_cells u_X_now_sights_limit N_X_now_sights_cells v_X_now_sights_width v_X_now_sights_size a_X_now_sights_cells x1 1 v7 hc8) (zgV zw_957 zw_353 zw_354 zw_32 zw_355) rfl hd_X7_at ⟨rfl, rfl⟩ ⟨Nat.le_of_ble_eq_true rfl, Nat.le_of_ble_eq_true rfl⟩ 3 7 rfl rfl rfl hl.1 rfl (Nat.le_of_ble_eq_true rfl) dX3_noteSights_46 hP hD hS hA hK hG (isC := [3, 4]) rfl (by decide +kernel) rfl ⟨Nat.zero_le _, Nat.zero_le _⟩ (pl := [none, none, none, some 0, some 1]) (nw := 5) rfl (by decide +kernel) (w2 := (ws_X3_noteSights cI cJ cZ cA q_X_guess q_X_guess_seen q_X_now q_X_now_sights q_X_now_sights_cells u_X_guess_day u_X_guess_sets u_X_guess_least u_X_guess_surely u_X_guess_isStale u_X_now_people u_X_now_talks u_X_now_dues u_X_now_rule u_X_now_settings u_X_now_stake u_X_now_sights_limit N_X_now_sights_cells a_X_guess_seen v_X_now_sights_width v_X_now_sights_size a_X_now_sights_cells)) rfl (st1 := [.int v7]) rfl (fun H locs hP hD hS => ?_)
        refine lv_istore_n (lv' := [(3, .int v7), (2, .int v5), (0, .ref q_X_guess), (1, .int x1)]) hx hb dX3_noteSights_49 rfl hl (by decide) rfl (fun ls hl => ?_)
        refine lv_iload_n hx hb dX3_noteSights_50 rfl (lv_at hl 1 rfl) ?_
        refine lv_iconst (v := 0) hx hb dX3_noteSights_51 (by decide) ?_
        refine lv_sipush (v := 240) hx hb dX3_noteSights_52 (by decide) ?_
        obtain ⟨v9, hc10, hg⟩ := zbd hg
        refine zcallSN (rest := []) S (c_X10_isIn l D cI cJ cZ cA ga v5 0 240 v9 hc10) (zgI zw_190) rfl hd_X10_isIn hG.1.2.1.2.2.2.2.2.1 (List.mem_cons_of_mem _ zw_2) (List.mem_cons_of_mem _ zw_189) ⟨rfl, rfl⟩ ⟨Nat.le_of_ble_eq_true rfl, Nat.le_of_ble_eq_true rfl⟩ rfl hl.1 rfl (Nat.le_of_ble_eq_true rfl) dX3_noteSights_55 hP hD hS hA hK hG (isC := []) rfl (by decide +kernel) rfl ⟨Nat.zero_le _, Nat.zero_le _⟩ (pl := [none, none, none, none, none]) (nw := 5) rfl (by decide +kernel) (w2 := (ws_X3_noteSights cI cJ cZ cA q_X_guess q_X_guess_seen q_X_now q_X_now_sights q_X_now_sights_cells u_X_guess_day u_X_guess_sets u_X_guess_least u_X_guess_surely u_X_guess_isStale u_X_now_people u_X_now_talks u_X_now_dues u_X_now_rule u_X_now_settings u_X_now_stake u_X_now_sights_limit N_X_now_sights_cells a_X_guess_seen v_X_now_sights_width v_X_now_sights_size a_X_now_sights_cells)) rfl (st1 := [.int v9]) rfl (fun H locs hP hD hS => ?_)
        refine lv_if_eq (tgt := 90) hx hb dX3_noteSights_58 (by decide) (fun h58 => ?_) (fun h58 => ?_)
        · have hg := zp hg h58
          exact B90 (g_X3_noteSights_10 N_X_now_sights_cells v_X_now_sights_width v_X_now_sights_size a_X_now_sights_cells n) ih x1 a_X_guess_seen _ _ _ (lv_sub hl [2, 3] rfl) hP hD hS hg
        · have hg := zn hg h58
          refine lv_aload_n hx hb dX3_noteSights_61 rfl (lv_at hl 2 rfl) ?_
          refine zget (C := RX3) (T := TX3) (N := 7) S hK hP 0 rfl rfl 2 (Nat.le_of_ble_eq_true rfl) zf_3 zw_141 rfl dX3_noteSights_62 ?_
          refine lv_iload_n hx hb dX3_noteSights_65 rfl (lv_at hl 1 rfl) ?_
          obtain ⟨h11, hg⟩ := zck hg
          refine ziald hx hb hK hP 1 0 rfl rfl (j := (v5.toNatClampNeg)) h11 rfl dX3_noteSights_66 ?_
          refine lv_iconst (v := (-1)) hx hb dX3_noteSights_67 (by decide) ?_
          refine lv_icmp_eq (tgt := 83) hx hb dX3_noteSights_68 (by decide) (fun h68 => ?_) (fun h68 => ?_)
          · have hg := zp hg h68
            exact B83 (g_X3_noteSights_10 N_X_now_sights_cells v_X_now_sights_width v_X_now_sights_size a_X_now_sights_cells n) ih x1 v5 v7 a_X_guess_seen _ _ _ (lv_sub hl [2, 3, 1, 0] rfl) hP hD hS hg
          · have hg := zn hg h68
            refine lv_aload_n hx hb dX3_noteSights_71 rfl (lv_at hl 2 rfl) ?_
            refine zget (C := RX3) (T := TX3) (N := 7) S hK hP 0 rfl rfl 2 (Nat.le_of_ble_eq_true rfl) zf_3 zw_141 rfl dX3_noteSights_72 ?_
            refine lv_iload_n hx hb dX3_noteSights_75 rfl (lv_at hl 1 rfl) ?_
            obtain ⟨h13, hg⟩ := zck hg
            refine ziald hx hb hK hP 1 0 rfl rfl (j := (v5.toNatClampNeg)) h13 rfl dX3_noteSights_76 ?_
            refine lv_iload_n hx hb dX3_noteSights_77 rfl (lv_at hl 0 rfl) ?_
            refine lv_icmp_eq (tgt := 83) hx hb dX3_noteSights_78 (by decide) (fun h78 => ?_) (fun h78 => ?_)
            · have hg := zp hg h78
              exact B83 (g_X3_noteSights_10 N_X_now_sights_cells v_X_now_sights_width v_X_now_sights_size a_X_now_sights_cells n) ih x1 v5 v7 a_X_guess_seen _ _ _ (lv_sub hl [2, 3, 1, 0] rfl) hP hD hS hg
            · have hg := zn hg h78
              refine lv_iconst (v := 0) hx hb dX3_noteSights_81 (by decide) ?_
              exact hret 0 a_X_guess_seen hg (zb01 (Or.inl rfl)) _ _ _ _ hP hS dX3_noteSights_82
  refine lv_aload_n hx hb dX3_noteSights_0 rfl (lv_at hl 0 rfl) ?_
  refine zget (C := RX3) (T := TX3) (N := 7) S hK hP 0 rfl rfl 2 (Nat.le_of_ble_eq_true rfl) zf_3 zw_141 rfl dX3_noteSights_1 ?_
  refine lv_iconst (v := (-1)) hx hb dX3_noteSights_4 (by decide) ?_
  obtain ⟨v1, hc2, hg⟩ := zbd hg
  refine zcallS (rest := []) S (c_J7_fill_53178 l D cI cJ cZ cA ga q_X_guess_seen 241 a_X_guess_seen (-1) v1 hc2) (zgS zw_955 zw_641 zw_642 zw_643) rfl hd_J7_fill_53178 ⟨rfl, rfl⟩ ⟨Nat.le_of_ble_eq_true rfl, Nat.le_of_ble_eq_true rfl⟩ rfl hl.1 rfl (Nat.le_of_ble_eq_true rfl) dX3_noteSights_5 hP hD hS hA hK hG (isC := [1]) rfl (by decide +kernel) rfl ⟨Nat.zero_le _, Nat.zero_le _⟩ (pl := [none, some 0, none, none, none]) (nw := 5) rfl (by decide +kernel) (w2 := (ws_X3_noteSights cI cJ cZ cA q_X_guess q_X_guess_seen q_X_now q_X_now_sights q_X_now_sights_cells u_X_guess_day u_X_guess_sets u_X_guess_least u_X_guess_surely u_X_guess_isStale u_X_now_people u_X_now_talks u_X_now_dues u_X_now_rule u_X_now_settings u_X_now_stake u_X_now_sights_limit N_X_now_sights_cells v1 v_X_now_sights_width v_X_now_sights_size a_X_now_sights_cells)) rfl (st1 := []) rfl (fun H locs hP hD hS => ?_)
  refine lv_iconst (v := 0) hx hb dX3_noteSights_8 (by decide) ?_
  refine lv_istore_n (lv' := [(1, .int 0), (0, .ref q_X_guess)]) hx hb dX3_noteSights_9 rfl hl (by decide) rfl (fun ls hl => ?_)
  exact B10 zF 0 v1 _ _ _ (lv_sub hl [1, 0] rfl) hP hD hS hg

/-! SpokenClock$Guess.peopleThere()I -/
abbrev ws_X3_peopleThere (cI cJ cZ cA : ClassId) (q_X_guess q_X_now q_X_now_people q_X_now_people_cells : Nat) (u_X_guess_day : Value) (u_X_guess_seen : Value) (u_X_guess_sets : Value) (u_X_guess_least : Value) (u_X_guess_surely : Value) (u_X_guess_isStale : Value) (u_X_now_talks : Value) (u_X_now_dues : Value) (u_X_now_sights : Value) (u_X_now_rule : Value) (u_X_now_settings : Value) (u_X_now_stake : Value) (u_X_now_people_limit : Value) (N_X_now_people_cells : Nat) (v_X_now_people_width : Int32) (v_X_now_people_size : Int32) (a_X_now_people_cells : Nat → Int32) : va_W := [(q_X_guess, .inr (3, [.ref q_X_now, u_X_guess_day, u_X_guess_seen, u_X_guess_sets, u_X_guess_least, u_X_guess_surely, u_X_guess_isStale])), (q_X_now, .inr (9, [.ref q_X_now_people, u_X_now_talks, u_X_now_dues, u_X_now_sights, u_X_now_rule, u_X_now_settings, u_X_now_stake])), (q_X_now_people, .inr (7, [.int v_X_now_people_width, u_X_now_people_limit, .ref q_X_now_people_cells, .int v_X_now_people_size])), (q_X_now_people_cells, .inl (cI, N_X_now_people_cells, .inl a_X_now_people_cells))]
abbrev rm_X3_peopleThere : Room := { frames := 1, cells := 0, slots := 0, locals := 22 }
def g_X3_peopleThere_39 (N_X_now_people_cells : Nat) (v_X_now_people_width : Int32) (v_X_now_people_size : Int32) (a_X_now_people_cells : Nat → Int32) (k4 : Int32 → Int32 → Option (Int32)) (x1 : Int32) (x2 : Int32) : Option (Int32) :=
  k4 x1 (x2 + 1)
def g_X3_peopleThere_4b (N_X_now_people_cells : Nat) (v_X_now_people_width : Int32) (v_X_now_people_size : Int32) (a_X_now_people_cells : Nat → Int32) (k4 : Int32 → Int32 → Option (Int32)) (x1 : Int32) (x2 : Int32) : Option (Int32) :=
  (g_X7_size v_X_now_people_size).bind fun v1 =>
  if v1 ≤ x2 then (
    some (x1 &&& 31)
  ) else (
    (g_X7_at N_X_now_people_cells v_X_now_people_width v_X_now_people_size a_X_now_people_cells x2 1).bind fun v3 =>
    if v3 = 0 then (
      g_X3_peopleThere_39 N_X_now_people_cells v_X_now_people_width v_X_now_people_size a_X_now_people_cells k4 (x1 ||| (1 <<< (x2 &&& 31))) x2
    ) else (
      g_X3_peopleThere_39 N_X_now_people_cells v_X_now_people_width v_X_now_people_size a_X_now_people_cells k4 x1 x2
    )
  )
def g_X3_peopleThere_4 (N_X_now_people_cells : Nat) (v_X_now_people_width : Int32) (v_X_now_people_size : Int32) (a_X_now_people_cells : Nat → Int32) : Nat → Int32 → Int32 → Option (Int32)
  | 0, _, _ => none
  | n + 1, x1, x2 => g_X3_peopleThere_4b N_X_now_people_cells v_X_now_people_width v_X_now_people_size a_X_now_people_cells (g_X3_peopleThere_4 N_X_now_people_cells v_X_now_people_width v_X_now_people_size a_X_now_people_cells n) x1 x2
def g_X3_peopleThere (N_X_now_people_cells : Nat) (v_X_now_people_width : Int32) (v_X_now_people_size : Int32) (a_X_now_people_cells : Nat → Int32) : Option (Int32) :=
  g_X3_peopleThere_4 N_X_now_people_cells v_X_now_people_width v_X_now_people_size a_X_now_people_cells zF 0 0
theorem hd_X3_peopleThere : yX3_peopleThere.cls = RX3 ∧ yX3_peopleThere.cls ≠ "java/lang/invoke/MethodHandle" ∧ yX3_peopleThere.cls ≠ "java/lang/invoke/VarHandle" ∧ (parseMethodDescriptor yX3_peopleThere.desc).map (fun d => d.parameters.length) = some 0 := by decide +kernel
set_option maxHeartbeats 4000000 in
set_option maxRecDepth 100000 in
theorem c_X3_peopleThere (l : Launch) (D : va_G) (cI cJ cZ cA : ClassId) (ga : Nat → Nat) (q_X_guess q_X_now q_X_now_people q_X_now_people_cells : Nat) (u_X_guess_day : Value) (u_X_guess_seen : Value) (u_X_guess_sets : Value) (u_X_guess_least : Value) (u_X_guess_surely : Value) (u_X_guess_isStale : Value) (u_X_now_talks : Value) (u_X_now_dues : Value) (u_X_now_sights : Value) (u_X_now_rule : Value) (u_X_now_settings : Value) (u_X_now_stake : Value) (u_X_now_people_limit : Value) (N_X_now_people_cells : Nat) (v_X_now_people_width : Int32) (v_X_now_people_size : Int32) (a_X_now_people_cells : Nat → Int32) (o : Int32) (hg : g_X3_peopleThere N_X_now_people_cells v_X_now_people_width v_X_now_people_size a_X_now_people_cells = some o) : zM l yX3_peopleThere (Cond.code yX3_peopleThere cX3_peopleThere 3 (some .int) :: wsL_law) rm_X3_peopleThere D (zTy cI cJ cZ cA) ga [.ref q_X_guess] (ws_X3_peopleThere cI cJ cZ cA q_X_guess q_X_now q_X_now_people q_X_now_people_cells u_X_guess_day u_X_guess_seen u_X_guess_sets u_X_guess_least u_X_guess_surely u_X_guess_isStale u_X_now_talks u_X_now_dues u_X_now_sights u_X_now_rule u_X_now_settings u_X_now_stake u_X_now_people_limit N_X_now_people_cells v_X_now_people_width v_X_now_people_size a_X_now_people_cells) (ws_X3_peopleThere cI cJ cZ cA q_X_guess q_X_now q_X_now_people q_X_now_people_cells u_X_guess_day u_X_guess_seen u_X_guess_sets u_X_guess_least u_X_guess_surely u_X_guess_isStale u_X_now_talks u_X_now_dues u_X_now_sights u_X_now_rule u_X_now_settings u_X_now_stake u_X_now_people_limit N_X_now_people_cells v_X_now_people_width v_X_now_people_size a_X_now_people_cells) (some (.int o)) := by
  refine zenterI (own := RX3) (by decide) rfl rfl (Nat.le_of_ble_eq_true rfl) ?_
  intro p e s m args below meth c A ls Q S hA hK hG hl hP hD hS hret0
  have hx := S.1
  have hb := S.2.1
  have ht : ∀ w, w ∈ wsL_law → w.before args s = true := fun w h => S.2.2.2.2 w (List.mem_cons_of_mem _ h)
  have hret : ∀ (r9 : Int32), (some (r9) : Option (Int32)) = some o → ∀ (H : Heap) (locs : List Loc) (pc : Nat) (ls : Array Slot), va_P D vwCl (ws_X3_peopleThere cI cJ cZ cA q_X_guess q_X_now q_X_now_people q_X_now_people_cells u_X_guess_day u_X_guess_seen u_X_guess_sets u_X_guess_least u_X_guess_surely u_X_guess_isStale u_X_now_talks u_X_now_dues u_X_now_sights u_X_now_rule u_X_now_settings u_X_now_stake u_X_now_people_limit N_X_now_people_cells v_X_now_people_width v_X_now_people_size a_X_now_people_cells) H → va_S A s.heap H locs → decode cX3_peopleThere pc = .ok (.ireturn, 1) → W p l e rm_X3_peopleThere s m args below meth c H locs 0 0 Q (F0 m pc ls [.int r9]) := by
    intro r9 he; cases he; exact hret0
  have hl : lv_has ls 3 [(0, .ref q_X_guess)] := hl
  have B39 : ∀ (k4 : Int32 → Int32 → Option (Int32)) (hk4 : ∀ (x1 : Int32) (x2 : Int32) (H : Heap) (locs : List Loc) (ls : Array Slot) (hl : lv_has ls 3 [(0, .ref q_X_guess), (1, .int x1), (2, .int x2)]) (hP : va_P D vwCl (ws_X3_peopleThere cI cJ cZ cA q_X_guess q_X_now q_X_now_people q_X_now_people_cells u_X_guess_day u_X_guess_seen u_X_guess_sets u_X_guess_least u_X_guess_surely u_X_guess_isStale u_X_now_talks u_X_now_dues u_X_now_sights u_X_now_rule u_X_now_settings u_X_now_stake u_X_now_people_limit N_X_now_people_cells v_X_now_people_width v_X_now_people_size a_X_now_people_cells) H) (hD : va_D A (ws_X3_peopleThere cI cJ cZ cA q_X_guess q_X_now q_X_now_people q_X_now_people_cells u_X_guess_day u_X_guess_seen u_X_guess_sets u_X_guess_least u_X_guess_surely u_X_guess_isStale u_X_now_talks u_X_now_dues u_X_now_sights u_X_now_rule u_X_now_settings u_X_now_stake u_X_now_people_limit N_X_now_people_cells v_X_now_people_width v_X_now_people_size a_X_now_people_cells)) (hS : va_S A s.heap H locs), k4 x1 x2 = some o → W p l e rm_X3_peopleThere s m args below meth c H locs 0 0 Q (F0 m 4 ls [])) (x1 : Int32) (x2 : Int32) (H : Heap) (locs : List Loc) (ls : Array Slot) (hl : lv_has ls 3 [(0, .ref q_X_guess), (1, .int x1), (2, .int x2)]) (hP : va_P D vwCl (ws_X3_peopleThere cI cJ cZ cA q_X_guess q_X_now q_X_now_people q_X_now_people_cells u_X_guess_day u_X_guess_seen u_X_guess_sets u_X_guess_least u_X_guess_surely u_X_guess_isStale u_X_now_talks u_X_now_dues u_X_now_sights u_X_now_rule u_X_now_settings u_X_now_stake u_X_now_people_limit N_X_now_people_cells v_X_now_people_width v_X_now_people_size a_X_now_people_cells) H) (hD : va_D A (ws_X3_peopleThere cI cJ cZ cA q_X_guess q_X_now q_X_now_people q_X_now_people_cells u_X_guess_day u_X_guess_seen u_X_guess_sets u_X_guess_least u_X_guess_surely u_X_guess_isStale u_X_now_talks u_X_now_dues u_X_now_sights u_X_now_rule u_X_now_settings u_X_now_stake u_X_now_people_limit N_X_now_people_cells v_X_now_people_width v_X_now_people_size a_X_now_people_cells)) (hS : va_S A s.heap H locs), g_X3_peopleThere_39 N_X_now_people_cells v_X_now_people_width v_X_now_people_size a_X_now_people_cells k4 x1 x2 = some o → W p l e rm_X3_peopleThere s m args below meth c H locs 0 0 Q (F0 m 39 ls []) := by
    intro k4 hk4 x1 x2 H locs ls hl hP hD hS hg
    refine lv_iinc (k := 2) (v := x2 + 1) (lv' := [(2, .int (x2 + 1)), (0, .ref q_X_guess), (1, .int x1)]) hx hb dX3_peopleThere_39 hl rfl (zinc (by decide)) (by decide) rfl (fun ls hl => ?_)
    refine lv_goto (tgt := 4) hx hb dX3_peopleThere_42 (by decide) ?_
    exact hk4 x1 (x2 + 1) _ _ _ (lv_sub hl [1, 2, 0] rfl) hP hD hS hg
  have B4 : ∀  (n : Nat) (x1 : Int32) (x2 : Int32) (H : Heap) (locs : List Loc) (ls : Array Slot) (hl : lv_has ls 3 [(0, .ref q_X_guess), (1, .int x1), (2, .int x2)]) (hP : va_P D vwCl (ws_X3_peopleThere cI cJ cZ cA q_X_guess q_X_now q_X_now_people q_X_now_people_cells u_X_guess_day u_X_guess_seen u_X_guess_sets u_X_guess_least u_X_guess_surely u_X_guess_isStale u_X_now_talks u_X_now_dues u_X_now_sights u_X_now_rule u_X_now_settings u_X_now_stake u_X_now_people_limit N_X_now_people_cells v_X_now_people_width v_X_now_people_size a_X_now_people_cells) H) (hD : va_D A (ws_X3_peopleThere cI cJ cZ cA q_X_guess q_X_now q_X_now_people q_X_now_people_cells u_X_guess_day u_X_guess_seen u_X_guess_sets u_X_guess_least u_X_guess_surely u_X_guess_isStale u_X_now_talks u_X_now_dues u_X_now_sights u_X_now_rule u_X_now_settings u_X_now_stake u_X_now_people_limit N_X_now_people_cells v_X_now_people_width v_X_now_people_size a_X_now_people_cells)) (hS : va_S A s.heap H locs), g_X3_peopleThere_4 N_X_now_people_cells v_X_now_people_width v_X_now_people_size a_X_now_people_cells n x1 x2 = some o → W p l e rm_X3_peopleThere s m args below meth c H locs 0 0 Q (F0 m 4 ls []) := by
    intro  n
    induction n with
    | zero => intro x1 x2 H locs ls hl hP hD hS hg; exact nomatch (show (none : Option (Int32)) = some o from hg)
    | succ n ih =>
      intro x1 x2 H locs ls hl hP hD hS hg
      have hg : g_X3_peopleThere_4b N_X_now_people_cells v_X_now_people_width v_X_now_people_size a_X_now_people_cells (g_X3_peopleThere_4 N_X_now_people_cells v_X_now_people_width v_X_now_people_size a_X_now_people_cells n) x1 x2 = some o := hg
      refine lv_iload_n hx hb dX3_peopleThere_4 rfl (lv_at hl 2 rfl) ?_
      refine lv_aload_n hx hb dX3_peopleThere_5 rfl (lv_at hl 0 rfl) ?_
      refine zget (C := RX3) (T := TX3) (N := 7) S hK hP 0 rfl rfl 0 (Nat.le_of_ble_eq_true rfl) zf_3 zw_143 rfl dX3_peopleThere_6 ?_
      refine zget (C := RX9) (T := TX9) (N := 7) S hK hP 1 rfl rfl 0 (Nat.le_of_ble_eq_true rfl) zf_9 zw_963 rfl dX3_peopleThere_9 ?_
      obtain ⟨v1, hc2, hg⟩ := zbd hg
      refine zcallV (rest := [.int x2]) S (c_X7_size l D cI cJ cZ cA ga q_X_now_people (.int v_X_now_people_width) u_X_now_people_limit (.ref q_X_now_people_cells) v_X_now_people_size v1 hc2) (zgV zw_956 zw_180 zw_181 zw_32 zw_182) rfl hd_X7_size ⟨rfl, rfl⟩ ⟨Nat.le_of_ble_eq_true rfl, Nat.le_of_ble_eq_true rfl⟩ 2 7 rfl rfl rfl hl.1 rfl (Nat.le_of_ble_eq_true rfl) dX3_peopleThere_12 hP hD hS hA hK hG (isC := [2]) rfl (by decide +kernel) rfl ⟨Nat.zero_le _, Nat.zero_le _⟩ (pl := [none, none, some 0, none]) (nw := 4) rfl (by decide +kernel) (w2 := (ws_X3_peopleThere cI cJ cZ cA q_X_guess q_X_now q_X_now_people q_X_now_people_cells u_X_guess_day u_X_guess_seen u_X_guess_sets u_X_guess_least u_X_guess_surely u_X_guess_isStale u_X_now_talks u_X_now_dues u_X_now_sights u_X_now_rule u_X_now_settings u_X_now_stake u_X_now_people_limit N_X_now_people_cells v_X_now_people_width v_X_now_people_size a_X_now_people_cells)) rfl (st1 := [.int v1, .int x2]) rfl (fun H locs hP hD hS => ?_)
      refine lv_icmp_ge (tgt := 45) hx hb dX3_peopleThere_15 (by decide) (fun h15 => ?_) (fun h15 => ?_)
      · have hg := zp hg h15
        refine lv_iload_n hx hb dX3_peopleThere_45 rfl (lv_at hl 1 rfl) ?_
        refine lv_bipush (v := 31) hx hb dX3_peopleThere_46 (by decide) ?_
        refine lv_iand hx hb dX3_peopleThere_48 ?_
        exact hret (x1 &&& 31) hg _ _ _ _ hP hS dX3_peopleThere_49
      · have hg := zn hg h15
        refine lv_aload_n hx hb dX3_peopleThere_18 rfl (lv_at hl 0 rfl) ?_
        refine zget (C := RX3) (T := TX3) (N := 7) S hK hP 0 rfl rfl 0 (Nat.le_of_ble_eq_true rfl) zf_3 zw_143 rfl dX3_peopleThere_19 ?_
        refine zget (C := RX9) (T := TX9) (N := 7) S hK hP 1 rfl rfl 0 (Nat.le_of_ble_eq_true rfl) zf_9 zw_963 rfl dX3_peopleThere_22 ?_
        refine lv_iload_n hx hb dX3_peopleThere_25 rfl (lv_at hl 2 rfl) ?_
        refine lv_iconst (v := 1) hx hb dX3_peopleThere_26 (by decide) ?_
        obtain ⟨v3, hc4, hg⟩ := zbd hg
        refine zcallV (rest := []) S (c_X7_at l D cI cJ cZ cA ga q_X_now_people q_X_now_people_cells u_X_now_people_limit N_X_now_people_cells v_X_now_people_width v_X_now_people_size a_X_now_people_cells x2 1 v3 hc4) (zgV zw_957 zw_353 zw_354 zw_32 zw_355) rfl hd_X7_at ⟨rfl, rfl⟩ ⟨Nat.le_of_ble_eq_true rfl, Nat.le_of_ble_eq_true rfl⟩ 2 7 rfl rfl rfl hl.1 rfl (Nat.le_of_ble_eq_true rfl) dX3_peopleThere_27 hP hD hS hA hK hG (isC := [2, 3]) rfl (by decide +kernel) rfl ⟨Nat.zero_le _, Nat.zero_le _⟩ (pl := [none, none, some 0, some 1]) (nw := 4) rfl (by decide +kernel) (w2 := (ws_X3_peopleThere cI cJ cZ cA q_X_guess q_X_now q_X_now_people q_X_now_people_cells u_X_guess_day u_X_guess_seen u_X_guess_sets u_X_guess_least u_X_guess_surely u_X_guess_isStale u_X_now_talks u_X_now_dues u_X_now_sights u_X_now_rule u_X_now_settings u_X_now_stake u_X_now_people_limit N_X_now_people_cells v_X_now_people_width v_X_now_people_size a_X_now_people_cells)) rfl (st1 := [.int v3]) rfl (fun H locs hP hD hS => ?_)
        refine lv_if_ne (tgt := 39) hx hb dX3_peopleThere_30 (by decide) (fun h30 => ?_) (fun h30 => ?_)
        · have hg := zn hg h30
          exact B39 (g_X3_peopleThere_4 N_X_now_people_cells v_X_now_people_width v_X_now_people_size a_X_now_people_cells n) ih x1 x2 _ _ _ hl hP hD hS hg
        · have hg := zp hg h30
          refine lv_iload_n hx hb dX3_peopleThere_33 rfl (lv_at hl 1 rfl) ?_
          refine lv_iconst (v := 1) hx hb dX3_peopleThere_34 (by decide) ?_
          refine lv_iload_n hx hb dX3_peopleThere_35 rfl (lv_at hl 2 rfl) ?_
          refine lv_ishl hx hb dX3_peopleThere_36 ?_
          refine lv_ior hx hb dX3_peopleThere_37 ?_
          refine lv_istore_n (lv' := [(1, .int (x1 ||| (1 <<< (x2 &&& 31)))), (0, .ref q_X_guess), (2, .int x2)]) hx hb dX3_peopleThere_38 rfl hl (by decide) rfl (fun ls hl => ?_)
          exact B39 (g_X3_peopleThere_4 N_X_now_people_cells v_X_now_people_width v_X_now_people_size a_X_now_people_cells n) ih (x1 ||| (1 <<< (x2 &&& 31))) x2 _ _ _ (lv_sub hl [1, 0, 2] rfl) hP hD hS hg
  refine lv_iconst (v := 0) hx hb dX3_peopleThere_0 (by decide) ?_
  refine lv_istore_n (lv' := [(1, .int 0), (0, .ref q_X_guess)]) hx hb dX3_peopleThere_1 rfl hl (by decide) rfl (fun ls hl => ?_)
  refine lv_iconst (v := 0) hx hb dX3_peopleThere_2 (by decide) ?_
  refine lv_istore_n (lv' := [(2, .int 0), (1, .int 0), (0, .ref q_X_guess)]) hx hb dX3_peopleThere_3 rfl hl (by decide) rfl (fun ls hl => ?_)
  exact B4 zF 0 0 _ _ _ (lv_sub hl [2, 1, 0] rfl) hP hD hS hg

/-! SpokenClock$Guess.refresh()V -/
abbrev ws_X3_refresh (cI cJ cZ cA : ClassId) (q_X_guess q_X_guess_seen q_X_now q_X_now_sights q_X_now_sights_cells q_X_now_people q_X_now_people_cells q_X_day q_X_day_talkers q_X_now_settings q_X_rule q_X_rule_known q_X_rule_stack q_X_rule_row : Nat) (u_X_now_talks : Value) (u_X_now_dues : Value) (u_X_now_rule : Value) (u_X_now_stake : Value) (u_X_now_sights_limit : Value) (u_X_now_people_limit : Value) (u_X_day_clocks : Value) (u_X_day_isStale : Value) (u_X_rule_place : Value) (u_X_rule_isStale : Value) (N_X_now_sights_cells : Nat) (N_X_now_people_cells : Nat) (v_X_guess_sets : Int32) (v_X_guess_least : Int32) (v_X_guess_surely : Int32) (v_X_guess_isStale : Int32) (a_X_guess_seen : Nat → Int32) (v_X_now_sights_width : Int32) (v_X_now_sights_size : Int32) (a_X_now_sights_cells : Nat → Int32) (v_X_now_people_width : Int32) (v_X_now_people_size : Int32) (a_X_now_people_cells : Nat → Int32) (a_X_day_talkers : Nat → Int32) (a_X_now_settings : Nat → Int32) (v_X_rule_size : Int32) (v_X_rule_fault : Int32) (a_X_rule_known : Nat → Int32) (a_X_rule_stack : Nat → Int64) (a_X_rule_row : Nat → Int32) : va_W := [(q_X_guess, .inr (3, [.ref q_X_now, .ref q_X_day, .ref q_X_guess_seen, .int v_X_guess_sets, .int v_X_guess_least, .int v_X_guess_surely, .int v_X_guess_isStale])), (q_X_guess_seen, .inl (cI, 241, .inl a_X_guess_seen)), (q_X_now, .inr (9, [.ref q_X_now_people, u_X_now_talks, u_X_now_dues, .ref q_X_now_sights, u_X_now_rule, .ref q_X_now_settings, u_X_now_stake])), (q_X_now_sights, .inr (7, [.int v_X_now_sights_width, u_X_now_sights_limit, .ref q_X_now_sights_cells, .int v_X_now_sights_size])), (q_X_now_sights_cells, .inl (cI, N_X_now_sights_cells, .inl a_X_now_sights_cells)), (q_X_now_people, .inr (7, [.int v_X_now_people_width, u_X_now_people_limit, .ref q_X_now_people_cells, .int v_X_now_people_size])), (q_X_now_people_cells, .inl (cI, N_X_now_people_cells, .inl a_X_now_people_cells)), (q_X_day, .inr (1, [.ref q_X_now, .ref q_X_rule, .ref q_X_day_talkers, u_X_day_clocks, u_X_day_isStale])), (q_X_day_talkers, .inl (cI, 240, .inl a_X_day_talkers)), (q_X_now_settings, .inl (cI, 3, .inl a_X_now_settings)), (q_X_rule, .inr (8, [.ref q_X_now, .ref q_X_rule_row, .ref q_X_rule_stack, .ref q_X_rule_known, .int v_X_rule_size, u_X_rule_place, .int v_X_rule_fault, u_X_rule_isStale])), (q_X_rule_known, .inl (cI, 6, .inl a_X_rule_known)), (q_X_rule_stack, .inl (cJ, 40, .inr (.inl a_X_rule_stack))), (q_X_rule_row, .inl (cI, 40, .inl a_X_rule_row))]
abbrev rm_X3_refresh : Room := { frames := 6, cells := 0, slots := 0, locals := 148 }
def g_X3_refresh_116 (N_X_now_sights_cells : Nat) (N_X_now_people_cells : Nat) (v_X_now_sights_width : Int32) (v_X_now_sights_size : Int32) (a_X_now_sights_cells : Nat → Int32) (v_X_now_people_width : Int32) (v_X_now_people_size : Int32) (a_X_now_people_cells : Nat → Int32) (a_X_day_talkers : Nat → Int32) (a_X_now_settings : Nat → Int32) (v_X_rule_size : Int32) (v_X_rule_fault : Int32) (a_X_rule_row : Nat → Int32) (k55 : Int32 → Int32 → Int32 → Int32 → Int32 → Int32 → Int32 → (Nat → Int32) → (Nat → Int32) → (Nat → Int64) → Option (Int32 × Int32 × Int32 × Int32 × (Nat → Int32) × (Nat → Int32) × (Nat → Int64))) (x1 : Int32) (x2 : Int32) (x3 : Int32) (v_X_guess_sets : Int32) (v_X_guess_least : Int32) (v_X_guess_surely : Int32) (v_X_guess_isStale : Int32) (a_X_guess_seen : Nat → Int32) (a_X_rule_known : Nat → Int32) (a_X_rule_stack : Nat → Int64) : Option (Int32 × Int32 × Int32 × Int32 × (Nat → Int32) × (Nat → Int32) × (Nat → Int64)) :=
  k55 x1 x2 (x3 + 1) v_X_guess_sets v_X_guess_least v_X_guess_surely v_X_guess_isStale a_X_guess_seen a_X_rule_known a_X_rule_stack
def g_X3_refresh_93 (N_X_now_sights_cells : Nat) (N_X_now_people_cells : Nat) (v_X_now_sights_width : Int32) (v_X_now_sights_size : Int32) (a_X_now_sights_cells : Nat → Int32) (v_X_now_people_width : Int32) (v_X_now_people_size : Int32) (a_X_now_people_cells : Nat → Int32) (a_X_day_talkers : Nat → Int32) (a_X_now_settings : Nat → Int32) (v_X_rule_size : Int32) (v_X_rule_fault : Int32) (a_X_rule_row : Nat → Int32) (k55 : Int32 → Int32 → Int32 → Int32 → Int32 → Int32 → Int32 → (Nat → Int32) → (Nat → Int32) → (Nat → Int64) → Option (Int32 × Int32 × Int32 × Int32 × (Nat → Int32) × (Nat → Int32) × (Nat → Int64))) (x1 : Int32) (x2 : Int32) (x3 : Int32) (t1 : Int32) (v_X_guess_sets : Int32) (v_X_guess_least : Int32) (v_X_guess_surely : Int32) (v_X_guess_isStale : Int32) (a_X_guess_seen : Nat → Int32) (a_X_rule_known : Nat → Int32) (a_X_rule_stack : Nat → Int64) : Option (Int32 × Int32 × Int32 × Int32 × (Nat → Int32) × (Nat → Int32) × (Nat → Int64)) :=
  g_X3_refresh_116 N_X_now_sights_cells N_X_now_people_cells v_X_now_sights_width v_X_now_sights_size a_X_now_sights_cells v_X_now_people_width v_X_now_people_size a_X_now_people_cells a_X_day_talkers a_X_now_settings v_X_rule_size v_X_rule_fault a_X_rule_row k55 x1 x2 x3 (v_X_guess_sets + 1) t1 (v_X_guess_surely &&& x3) v_X_guess_isStale a_X_guess_seen a_X_rule_known a_X_rule_stack
def g_X3_refresh_55b (N_X_now_sights_cells : Nat) (N_X_now_people_cells : Nat) (v_X_now_sights_width : Int32) (v_X_now_sights_size : Int32) (a_X_now_sights_cells : Nat → Int32) (v_X_now_people_width : Int32) (v_X_now_people_size : Int32) (a_X_now_people_cells : Nat → Int32) (a_X_day_talkers : Nat → Int32) (a_X_now_settings : Nat → Int32) (v_X_rule_size : Int32) (v_X_rule_fault : Int32) (a_X_rule_row : Nat → Int32) (k55 : Int32 → Int32 → Int32 → Int32 → Int32 → Int32 → Int32 → (Nat → Int32) → (Nat → Int32) → (Nat → Int64) → Option (Int32 × Int32 × Int32 × Int32 × (Nat → Int32) × (Nat → Int32) × (Nat → Int64))) (x1 : Int32) (x2 : Int32) (x3 : Int32) (v_X_guess_sets : Int32) (v_X_guess_least : Int32) (v_X_guess_surely : Int32) (v_X_guess_isStale : Int32) (a_X_guess_seen : Nat → Int32) (a_X_rule_known : Nat → Int32) (a_X_rule_stack : Nat → Int64) : Option (Int32 × Int32 × Int32 × Int32 × (Nat → Int32) × (Nat → Int32) × (Nat → Int64)) :=
  if x2 < x3 then (
    some (v_X_guess_sets, v_X_guess_least, v_X_guess_surely, v_X_guess_isStale, a_X_guess_seen, a_X_rule_known, a_X_rule_stack)
  ) else (
    if (x3 &&& (x2 ^^^ (-1))) = 0 then (
      (g_X3_fits N_X_now_people_cells a_X_guess_seen v_X_now_people_width v_X_now_people_size a_X_day_talkers a_X_now_people_cells a_X_now_settings v_X_rule_size v_X_rule_fault a_X_rule_row x3 x1 a_X_rule_known a_X_rule_stack).bind fun v7 =>
      if v7.1 = 0 then (
        g_X3_refresh_116 N_X_now_sights_cells N_X_now_people_cells v_X_now_sights_width v_X_now_sights_size a_X_now_sights_cells v_X_now_people_width v_X_now_people_size a_X_now_people_cells a_X_day_talkers a_X_now_settings v_X_rule_size v_X_rule_fault a_X_rule_row k55 x1 x2 x3 v_X_guess_sets v_X_guess_least v_X_guess_surely v_X_guess_isStale a_X_guess_seen v7.2.1 v7.2.2
      ) else (
        if v_X_guess_sets = 0 then (
          g_X3_refresh_93 N_X_now_sights_cells N_X_now_people_cells v_X_now_sights_width v_X_now_sights_size a_X_now_sights_cells v_X_now_people_width v_X_now_people_size a_X_now_people_cells a_X_day_talkers a_X_now_settings v_X_rule_size v_X_rule_fault a_X_rule_row k55 x1 x2 x3 x3 v_X_guess_sets v_X_guess_least v_X_guess_surely v_X_guess_isStale a_X_guess_seen v7.2.1 v7.2.2
        ) else (
          g_X3_refresh_93 N_X_now_sights_cells N_X_now_people_cells v_X_now_sights_width v_X_now_sights_size a_X_now_sights_cells v_X_now_people_width v_X_now_people_size a_X_now_people_cells a_X_day_talkers a_X_now_settings v_X_rule_size v_X_rule_fault a_X_rule_row k55 x1 x2 x3 v_X_guess_least v_X_guess_sets v_X_guess_least v_X_guess_surely v_X_guess_isStale a_X_guess_seen v7.2.1 v7.2.2
        )
      )
    ) else (
      g_X3_refresh_116 N_X_now_sights_cells N_X_now_people_cells v_X_now_sights_width v_X_now_sights_size a_X_now_sights_cells v_X_now_people_width v_X_now_people_size a_X_now_people_cells a_X_day_talkers a_X_now_settings v_X_rule_size v_X_rule_fault a_X_rule_row k55 x1 x2 x3 v_X_guess_sets v_X_guess_least v_X_guess_surely v_X_guess_isStale a_X_guess_seen a_X_rule_known a_X_rule_stack
    )
  )
def g_X3_refresh_55 (N_X_now_sights_cells : Nat) (N_X_now_people_cells : Nat) (v_X_now_sights_width : Int32) (v_X_now_sights_size : Int32) (a_X_now_sights_cells : Nat → Int32) (v_X_now_people_width : Int32) (v_X_now_people_size : Int32) (a_X_now_people_cells : Nat → Int32) (a_X_day_talkers : Nat → Int32) (a_X_now_settings : Nat → Int32) (v_X_rule_size : Int32) (v_X_rule_fault : Int32) (a_X_rule_row : Nat → Int32) : Nat → Int32 → Int32 → Int32 → Int32 → Int32 → Int32 → Int32 → (Nat → Int32) → (Nat → Int32) → (Nat → Int64) → Option (Int32 × Int32 × Int32 × Int32 × (Nat → Int32) × (Nat → Int32) × (Nat → Int64))
  | 0, _, _, _, _, _, _, _, _, _, _ => none
  | n + 1, x1, x2, x3, v_X_guess_sets, v_X_guess_least, v_X_guess_surely, v_X_guess_isStale, a_X_guess_seen, a_X_rule_known, a_X_rule_stack => g_X3_refresh_55b N_X_now_sights_cells N_X_now_people_cells v_X_now_sights_width v_X_now_sights_size a_X_now_sights_cells v_X_now_people_width v_X_now_people_size a_X_now_people_cells a_X_day_talkers a_X_now_settings v_X_rule_size v_X_rule_fault a_X_rule_row (g_X3_refresh_55 N_X_now_sights_cells N_X_now_people_cells v_X_now_sights_width v_X_now_sights_size a_X_now_sights_cells v_X_now_people_width v_X_now_people_size a_X_now_people_cells a_X_day_talkers a_X_now_settings v_X_rule_size v_X_rule_fault a_X_rule_row n) x1 x2 x3 v_X_guess_sets v_X_guess_least v_X_guess_surely v_X_guess_isStale a_X_guess_seen a_X_rule_known a_X_rule_stack
def g_X3_refresh (N_X_now_sights_cells : Nat) (N_X_now_people_cells : Nat) (v_X_now_sights_width : Int32) (v_X_now_sights_size : Int32) (a_X_now_sights_cells : Nat → Int32) (v_X_now_people_width : Int32) (v_X_now_people_size : Int32) (a_X_now_people_cells : Nat → Int32) (a_X_day_talkers : Nat → Int32) (a_X_now_settings : Nat → Int32) (v_X_rule_size : Int32) (v_X_rule_fault : Int32) (a_X_rule_row : Nat → Int32) (v_X_guess_sets : Int32) (v_X_guess_least : Int32) (v_X_guess_surely : Int32) (v_X_guess_isStale : Int32) (a_X_guess_seen : Nat → Int32) (a_X_rule_known : Nat → Int32) (a_X_rule_stack : Nat → Int64) : Option (Int32 × Int32 × Int32 × Int32 × (Nat → Int32) × (Nat → Int32) × (Nat → Int64)) :=
  if v_X_guess_isStale = 0 then (
    some (v_X_guess_sets, v_X_guess_least, v_X_guess_surely, v_X_guess_isStale, a_X_guess_seen, a_X_rule_known, a_X_rule_stack)
  ) else (
    (g_X3_noteSights N_X_now_sights_cells v_X_now_sights_width v_X_now_sights_size a_X_now_sights_cells a_X_guess_seen).bind fun v1 =>
    if v1.1 = 0 then (
      some (0, (-1), (-1), 0, v1.2, a_X_rule_known, a_X_rule_stack)
    ) else (
      (g_X7_greatest N_X_now_sights_cells v_X_now_sights_width v_X_now_sights_size a_X_now_sights_cells 0).bind fun v3 =>
      (g_X3_peopleThere N_X_now_people_cells v_X_now_people_width v_X_now_people_size a_X_now_people_cells).bind fun v5 =>
      g_X3_refresh_55 N_X_now_sights_cells N_X_now_people_cells v_X_now_sights_width v_X_now_sights_size a_X_now_sights_cells v_X_now_people_width v_X_now_people_size a_X_now_people_cells a_X_day_talkers a_X_now_settings v_X_rule_size v_X_rule_fault a_X_rule_row zF v3 v5 0 0 (-1) (-1) 0 v1.2 a_X_rule_known a_X_rule_stack
    )
  )
theorem hd_X3_refresh : yX3_refresh.cls = RX3 ∧ yX3_refresh.cls ≠ "java/lang/invoke/MethodHandle" ∧ yX3_refresh.cls ≠ "java/lang/invoke/VarHandle" ∧ (parseMethodDescriptor yX3_refresh.desc).map (fun d => d.parameters.length) = some 0 := by decide +kernel
set_option maxHeartbeats 4000000 in
set_option maxRecDepth 100000 in
theorem c_X3_refresh (l : Launch) (D : va_G) (cI cJ cZ cA : ClassId) (ga : Nat → Nat) (q_X_guess q_X_guess_seen q_X_now q_X_now_sights q_X_now_sights_cells q_X_now_people q_X_now_people_cells q_X_day q_X_day_talkers q_X_now_settings q_X_rule q_X_rule_known q_X_rule_stack q_X_rule_row : Nat) (u_X_now_talks : Value) (u_X_now_dues : Value) (u_X_now_rule : Value) (u_X_now_stake : Value) (u_X_now_sights_limit : Value) (u_X_now_people_limit : Value) (u_X_day_clocks : Value) (u_X_day_isStale : Value) (u_X_rule_place : Value) (u_X_rule_isStale : Value) (N_X_now_sights_cells : Nat) (N_X_now_people_cells : Nat) (v_X_guess_sets : Int32) (v_X_guess_least : Int32) (v_X_guess_surely : Int32) (v_X_guess_isStale : Int32) (a_X_guess_seen : Nat → Int32) (v_X_now_sights_width : Int32) (v_X_now_sights_size : Int32) (a_X_now_sights_cells : Nat → Int32) (v_X_now_people_width : Int32) (v_X_now_people_size : Int32) (a_X_now_people_cells : Nat → Int32) (a_X_day_talkers : Nat → Int32) (a_X_now_settings : Nat → Int32) (v_X_rule_size : Int32) (v_X_rule_fault : Int32) (a_X_rule_known : Nat → Int32) (a_X_rule_stack : Nat → Int64) (a_X_rule_row : Nat → Int32) (o : Int32 × Int32 × Int32 × Int32 × (Nat → Int32) × (Nat → Int32) × (Nat → Int64)) (hg : g_X3_refresh N_X_now_sights_cells N_X_now_people_cells v_X_now_sights_width v_X_now_sights_size a_X_now_sights_cells v_X_now_people_width v_X_now_people_size a_X_now_people_cells a_X_day_talkers a_X_now_settings v_X_rule_size v_X_rule_fault a_X_rule_row v_X_guess_sets v_X_guess_least v_X_guess_surely v_X_guess_isStale a_X_guess_seen a_X_rule_known a_X_rule_stack = some o) : zM l yX3_refresh (Cond.code yX3_refresh cX3_refresh 4 none :: wsL_law) rm_X3_refresh D (zTy cI cJ cZ cA) ga [.ref q_X_guess] (ws_X3_refresh cI cJ cZ cA q_X_guess q_X_guess_seen q_X_now q_X_now_sights q_X_now_sights_cells q_X_now_people q_X_now_people_cells q_X_day q_X_day_talkers q_X_now_settings q_X_rule q_X_rule_known q_X_rule_stack q_X_rule_row u_X_now_talks u_X_now_dues u_X_now_rule u_X_now_stake u_X_now_sights_limit u_X_now_people_limit u_X_day_clocks u_X_day_isStale u_X_rule_place u_X_rule_isStale N_X_now_sights_cells N_X_now_people_cells v_X_guess_sets v_X_guess_least v_X_guess_surely v_X_guess_isStale a_X_guess_seen v_X_now_sights_width v_X_now_sights_size a_X_now_sights_cells v_X_now_people_width v_X_now_people_size a_X_now_people_cells a_X_day_talkers a_X_now_settings v_X_rule_size v_X_rule_fault a_X_rule_known a_X_rule_stack a_X_rule_row) (ws_X3_refresh cI cJ cZ cA q_X_guess q_X_guess_seen q_X_now q_X_now_sights q_X_now_sights_cells q_X_now_people q_X_now_people_cells q_X_day q_X_day_talkers q_X_now_settings q_X_rule q_X_rule_known q_X_rule_stack q_X_rule_row u_X_now_talks u_X_now_dues u_X_now_rule u_X_now_stake u_X_now_sights_limit u_X_now_people_limit u_X_day_clocks u_X_day_isStale u_X_rule_place u_X_rule_isStale N_X_now_sights_cells N_X_now_people_cells o.1 o.2.1 o.2.2.1 o.2.2.2.1 o.2.2.2.2.1 v_X_now_sights_width v_X_now_sights_size a_X_now_sights_cells v_X_now_people_width v_X_now_people_size a_X_now_people_cells a_X_day_talkers a_X_now_settings v_X_rule_size v_X_rule_fault o.2.2.2.2.2.1 o.2.2.2.2.2.2 a_X_rule_row) none := by
  refine zenterV (own := RX3) (by decide) rfl rfl (Nat.le_of_ble_eq_true rfl) ?_
  intro p e s m args below meth c A ls Q S hA hK hG hl hP hD hS hret0
  have hx := S.1
  have hb := S.2.1
  have ht : ∀ w, w ∈ wsL_law → w.before args s = true := fun w h => S.2.2.2.2 w (List.mem_cons_of_mem _ h)
  have hret : ∀ (v_X_guess_sets : Int32) (v_X_guess_least : Int32) (v_X_guess_surely : Int32) (v_X_guess_isStale : Int32) (a_X_guess_seen : Nat → Int32) (a_X_rule_known : Nat → Int32) (a_X_rule_stack : Nat → Int64), (some (v_X_guess_sets, v_X_guess_least, v_X_guess_surely, v_X_guess_isStale, a_X_guess_seen, a_X_rule_known, a_X_rule_stack) : Option (Int32 × Int32 × Int32 × Int32 × (Nat → Int32) × (Nat → Int32) × (Nat → Int64))) = some o → ∀ (H : Heap) (locs : List Loc) (pc : Nat) (ls : Array Slot), va_P D vwCl (ws_X3_refresh cI cJ cZ cA q_X_guess q_X_guess_seen q_X_now q_X_now_sights q_X_now_sights_cells q_X_now_people q_X_now_people_cells q_X_day q_X_day_talkers q_X_now_settings q_X_rule q_X_rule_known q_X_rule_stack q_X_rule_row u_X_now_talks u_X_now_dues u_X_now_rule u_X_now_stake u_X_now_sights_limit u_X_now_people_limit u_X_day_clocks u_X_day_isStale u_X_rule_place u_X_rule_isStale N_X_now_sights_cells N_X_now_people_cells v_X_guess_sets v_X_guess_least v_X_guess_surely v_X_guess_isStale a_X_guess_seen v_X_now_sights_width v_X_now_sights_size a_X_now_sights_cells v_X_now_people_width v_X_now_people_size a_X_now_people_cells a_X_day_talkers a_X_now_settings v_X_rule_size v_X_rule_fault a_X_rule_known a_X_rule_stack a_X_rule_row) H → va_S A s.heap H locs → decode cX3_refresh pc = .ok (.return_, 1) → W p l e rm_X3_refresh s m args below meth c H locs 0 0 Q (F0 m pc ls []) := by
    intro v_X_guess_sets v_X_guess_least v_X_guess_surely v_X_guess_isStale a_X_guess_seen a_X_rule_known a_X_rule_stack he; cases he; exact hret0
  have hl : lv_has ls 4 [(0, .ref q_X_guess)] := hl
  have B116 : ∀ (k55 : Int32 → Int32 → Int32 → Int32 → Int32 → Int32 → Int32 → (Nat → Int32) → (Nat → Int32) → (Nat → Int64) → Option (Int32 × Int32 × Int32 × Int32 × (Nat → Int32) × (Nat → Int32) × (Nat → Int64))) (hk55 : ∀ (x1 : Int32) (x2 : Int32) (x3 : Int32) (v_X_guess_sets : Int32) (v_X_guess_least : Int32) (v_X_guess_surely : Int32) (v_X_guess_isStale : Int32) (a_X_guess_seen : Nat → Int32) (a_X_rule_known : Nat → Int32) (a_X_rule_stack : Nat → Int64) (H : Heap) (locs : List Loc) (ls : Array Slot) (hl : lv_has ls 4 [(0, .ref q_X_guess), (1, .int x1), (2, .int x2), (3, .int x3)]) (hP : va_P D vwCl (ws_X3_refresh cI cJ cZ cA q_X_guess q_X_guess_seen q_X_now q_X_now_sights q_X_now_sights_cells q_X_now_people q_X_now_people_cells q_X_day q_X_day_talkers q_X_now_settings q_X_rule q_X_rule_known q_X_rule_stack q_X_rule_row u_X_now_talks u_X_now_dues u_X_now_rule u_X_now_stake u_X_now_sights_limit u_X_now_people_limit u_X_day_clocks u_X_day_isStale u_X_rule_place u_X_rule_isStale N_X_now_sights_cells N_X_now_people_cells v_X_guess_sets v_X_guess_least v_X_guess_surely v_X_guess_isStale a_X_guess_seen v_X_now_sights_width v_X_now_sights_size a_X_now_sights_cells v_X_now_people_width v_X_now_people_size a_X_now_people_cells a_X_day_talkers a_X_now_settings v_X_rule_size v_X_rule_fault a_X_rule_known a_X_rule_stack a_X_rule_row) H) (hD : va_D A (ws_X3_refresh cI cJ cZ cA q_X_guess q_X_guess_seen q_X_now q_X_now_sights q_X_now_sights_cells q_X_now_people q_X_now_people_cells q_X_day q_X_day_talkers q_X_now_settings q_X_rule q_X_rule_known q_X_rule_stack q_X_rule_row u_X_now_talks u_X_now_dues u_X_now_rule u_X_now_stake u_X_now_sights_limit u_X_now_people_limit u_X_day_clocks u_X_day_isStale u_X_rule_place u_X_rule_isStale N_X_now_sights_cells N_X_now_people_cells v_X_guess_sets v_X_guess_least v_X_guess_surely v_X_guess_isStale a_X_guess_seen v_X_now_sights_width v_X_now_sights_size a_X_now_sights_cells v_X_now_people_width v_X_now_people_size a_X_now_people_cells a_X_day_talkers a_X_now_settings v_X_rule_size v_X_rule_fault a_X_rule_known a_X_rule_stack a_X_rule_row)) (hS : va_S A s.heap H locs), k55 x1 x2 x3 v_X_guess_sets v_X_guess_least v_X_guess_surely v_X_guess_isStale a_X_guess_seen a_X_rule_known a_X_rule_stack = some o → W p l e rm_X3_refresh s m args below meth c H locs 0 0 Q (F0 m 55 ls [])) (x1 : Int32) (x2 : Int32) (x3 : Int32) (v_X_guess_sets : Int32) (v_X_guess_least : Int32) (v_X_guess_surely : Int32) (v_X_guess_isStale : Int32) (a_X_guess_seen : Nat → Int32) (a_X_rule_known : Nat → Int32) (a_X_rule_stack : Nat → Int64) (H : Heap) (locs : List Loc) (ls : Array Slot) (hl : lv_has ls 4 [(0, .ref q_X_guess), (1, .int x1), (2, .int x2), (3, .int x3)]) (hP : va_P D vwCl (ws_X3_refresh cI cJ cZ cA q_X_guess q_X_guess_seen q_X_now q_X_now_sights q_X_now_sights_cells q_X_now_people q_X_now_people_cells q_X_day q_X_day_talkers q_X_now_settings q_X_rule q_X_rule_known q_X_rule_stack q_X_rule_row u_X_now_talks u_X_now_dues u_X_now_rule u_X_now_stake u_X_now_sights_limit u_X_now_people_limit u_X_day_clocks u_X_day_isStale u_X_rule_place u_X_rule_isStale N_X_now_sights_cells N_X_now_people_cells v_X_guess_sets v_X_guess_least v_X_guess_surely v_X_guess_isStale a_X_guess_seen v_X_now_sights_width v_X_now_sights_size a_X_now_sights_cells v_X_now_people_width v_X_now_people_size a_X_now_people_cells a_X_day_talkers a_X_now_settings v_X_rule_size v_X_rule_fault a_X_rule_known a_X_rule_stack a_X_rule_row) H) (hD : va_D A (ws_X3_refresh cI cJ cZ cA q_X_guess q_X_guess_seen q_X_now q_X_now_sights q_X_now_sights_cells q_X_now_people q_X_now_people_cells q_X_day q_X_day_talkers q_X_now_settings q_X_rule q_X_rule_known q_X_rule_stack q_X_rule_row u_X_now_talks u_X_now_dues u_X_now_rule u_X_now_stake u_X_now_sights_limit u_X_now_people_limit u_X_day_clocks u_X_day_isStale u_X_rule_place u_X_rule_isStale N_X_now_sights_cells N_X_now_people_cells v_X_guess_sets v_X_guess_least v_X_guess_surely v_X_guess_isStale a_X_guess_seen v_X_now_sights_width v_X_now_sights_size a_X_now_sights_cells v_X_now_people_width v_X_now_people_size a_X_now_people_cells a_X_day_talkers a_X_now_settings v_X_rule_size v_X_rule_fault a_X_rule_known a_X_rule_stack a_X_rule_row)) (hS : va_S A s.heap H locs), g_X3_refresh_116 N_X_now_sights_cells N_X_now_people_cells v_X_now_sights_width v_X_now_sights_size a_X_now_sights_cells v_X_now_people_width v_X_now_people_size a_X_now_people_cells a_X_day_talkers a_X_now_settings v_X_rule_size v_X_rule_fault a_X_rule_row k55 x1 x2 x3 v_X_guess_sets v_X_guess_least v_X_guess_surely v_X_guess_isStale a_X_guess_seen a_X_rule_known a_X_rule_stack = some o → W p l e rm_X3_refresh s m args below meth c H locs 0 0 Q (F0 m 116 ls []) := by
    intro k55 hk55 x1 x2 x3 v_X_guess_sets v_X_guess_least v_X_guess_surely v_X_guess_isStale a_X_guess_seen a_X_rule_known a_X_rule_stack H locs ls hl hP hD hS hg
    refine lv_iinc (k := 3) (v := x3 + 1) (lv' := [(3, .int (x3 + 1)), (0, .ref q_X_guess), (1, .int x1), (2, .int x2)]) hx hb dX3_refresh_116 hl rfl (zinc (by decide)) (by decide) rfl (fun ls hl => ?_)
    refine lv_goto (tgt := 55) hx hb dX3_refresh_119 (by decide) ?_
    exact hk55 x1 x2 (x3 + 1) v_X_guess_sets v_X_guess_least v_X_guess_surely v_X_guess_isStale a_X_guess_seen a_X_rule_known a_X_rule_stack _ _ _ (lv_sub hl [1, 2, 3, 0] rfl) hP hD hS hg
  have B93 : ∀ (k55 : Int32 → Int32 → Int32 → Int32 → Int32 → Int32 → Int32 → (Nat → Int32) → (Nat → Int32) → (Nat → Int64) → Option (Int32 × Int32 × Int32 × Int32 × (Nat → Int32) × (Nat → Int32) × (Nat → Int64))) (hk55 : ∀ (x1 : Int32) (x2 : Int32) (x3 : Int32) (v_X_guess_sets : Int32) (v_X_guess_least : Int32) (v_X_guess_surely : Int32) (v_X_guess_isStale : Int32) (a_X_guess_seen : Nat → Int32) (a_X_rule_known : Nat → Int32) (a_X_rule_stack : Nat → Int64) (H : Heap) (locs : List Loc) (ls : Array Slot) (hl : lv_has ls 4 [(0, .ref q_X_guess), (1, .int x1), (2, .int x2), (3, .int x3)]) (hP : va_P D vwCl (ws_X3_refresh cI cJ cZ cA q_X_guess q_X_guess_seen q_X_now q_X_now_sights q_X_now_sights_cells q_X_now_people q_X_now_people_cells q_X_day q_X_day_talkers q_X_now_settings q_X_rule q_X_rule_known q_X_rule_stack q_X_rule_row u_X_now_talks u_X_now_dues u_X_now_rule u_X_now_stake u_X_now_sights_limit u_X_now_people_limit u_X_day_clocks u_X_day_isStale u_X_rule_place u_X_rule_isStale N_X_now_sights_cells N_X_now_people_cells v_X_guess_sets v_X_guess_least v_X_guess_surely v_X_guess_isStale a_X_guess_seen v_X_now_sights_width v_X_now_sights_size a_X_now_sights_cells v_X_now_people_width v_X_now_people_size a_X_now_people_cells a_X_day_talkers a_X_now_settings v_X_rule_size v_X_rule_fault a_X_rule_known a_X_rule_stack a_X_rule_row) H) (hD : va_D A (ws_X3_refresh cI cJ cZ cA q_X_guess q_X_guess_seen q_X_now q_X_now_sights q_X_now_sights_cells q_X_now_people q_X_now_people_cells q_X_day q_X_day_talkers q_X_now_settings q_X_rule q_X_rule_known q_X_rule_stack q_X_rule_row u_X_now_talks u_X_now_dues u_X_now_rule u_X_now_stake u_X_now_sights_limit u_X_now_people_limit u_X_day_clocks u_X_day_isStale u_X_rule_place u_X_rule_isStale N_X_now_sights_cells N_X_now_people_cells v_X_guess_sets v_X_guess_least v_X_guess_surely v_X_guess_isStale a_X_guess_seen v_X_now_sights_width v_X_now_sights_size a_X_now_sights_cells v_X_now_people_width v_X_now_people_size a_X_now_people_cells a_X_day_talkers a_X_now_settings v_X_rule_size v_X_rule_fault a_X_rule_known a_X_rule_stack a_X_rule_row)) (hS : va_S A s.heap H locs), k55 x1 x2 x3 v_X_guess_sets v_X_guess_least v_X_guess_surely v_X_guess_isStale a_X_guess_seen a_X_rule_known a_X_rule_stack = some o → W p l e rm_X3_refresh s m args below meth c H locs 0 0 Q (F0 m 55 ls [])) (x1 : Int32) (x2 : Int32) (x3 : Int32) (t1 : Int32) (v_X_guess_sets : Int32) (v_X_guess_least : Int32) (v_X_guess_surely : Int32) (v_X_guess_isStale : Int32) (a_X_guess_seen : Nat → Int32) (a_X_rule_known : Nat → Int32) (a_X_rule_stack : Nat → Int64) (H : Heap) (locs : List Loc) (ls : Array Slot) (hl : lv_has ls 4 [(0, .ref q_X_guess), (1, .int x1), (2, .int x2), (3, .int x3)]) (hP : va_P D vwCl (ws_X3_refresh cI cJ cZ cA q_X_guess q_X_guess_seen q_X_now q_X_now_sights q_X_now_sights_cells q_X_now_people q_X_now_people_cells q_X_day q_X_day_talkers q_X_now_settings q_X_rule q_X_rule_known q_X_rule_stack q_X_rule_row u_X_now_talks u_X_now_dues u_X_now_rule u_X_now_stake u_X_now_sights_limit u_X_now_people_limit u_X_day_clocks u_X_day_isStale u_X_rule_place u_X_rule_isStale N_X_now_sights_cells N_X_now_people_cells v_X_guess_sets v_X_guess_least v_X_guess_surely v_X_guess_isStale a_X_guess_seen v_X_now_sights_width v_X_now_sights_size a_X_now_sights_cells v_X_now_people_width v_X_now_people_size a_X_now_people_cells a_X_day_talkers a_X_now_settings v_X_rule_size v_X_rule_fault a_X_rule_known a_X_rule_stack a_X_rule_row) H) (hD : va_D A (ws_X3_refresh cI cJ cZ cA q_X_guess q_X_guess_seen q_X_now q_X_now_sights q_X_now_sights_cells q_X_now_people q_X_now_people_cells q_X_day q_X_day_talkers q_X_now_settings q_X_rule q_X_rule_known q_X_rule_stack q_X_rule_row u_X_now_talks u_X_now_dues u_X_now_rule u_X_now_stake u_X_now_sights_limit u_X_now_people_limit u_X_day_clocks u_X_day_isStale u_X_rule_place u_X_rule_isStale N_X_now_sights_cells N_X_now_people_cells v_X_guess_sets v_X_guess_least v_X_guess_surely v_X_guess_isStale a_X_guess_seen v_X_now_sights_width v_X_now_sights_size a_X_now_sights_cells v_X_now_people_width v_X_now_people_size a_X_now_people_cells a_X_day_talkers a_X_now_settings v_X_rule_size v_X_rule_fault a_X_rule_known a_X_rule_stack a_X_rule_row)) (hS : va_S A s.heap H locs), g_X3_refresh_93 N_X_now_sights_cells N_X_now_people_cells v_X_now_sights_width v_X_now_sights_size a_X_now_sights_cells v_X_now_people_width v_X_now_people_size a_X_now_people_cells a_X_day_talkers a_X_now_settings v_X_rule_size v_X_rule_fault a_X_rule_row k55 x1 x2 x3 t1 v_X_guess_sets v_X_guess_least v_X_guess_surely v_X_guess_isStale a_X_guess_seen a_X_rule_known a_X_rule_stack = some o → W p l e rm_X3_refresh s m args below meth c H locs 0 0 Q (F0 m 93 ls [.int t1, .ref q_X_guess]) := by
    intro k55 hk55 x1 x2 x3 t1 v_X_guess_sets v_X_guess_least v_X_guess_surely v_X_guess_isStale a_X_guess_seen a_X_rule_known a_X_rule_stack H locs ls hl hP hD hS hg
    refine zputf (C := RX3) (T := TX3) (N := 7) (ty := .int) S hK hP hD hS 0 rfl rfl 4 (Nat.le_of_ble_eq_true rfl) zf_3 tyX3 tyX3_ok nmX3 zw_948 rfl (by decide +kernel) rfl rfl (Nat.le_of_ble_eq_true rfl) dX3_refresh_93 (w2 := (ws_X3_refresh cI cJ cZ cA q_X_guess q_X_guess_seen q_X_now q_X_now_sights q_X_now_sights_cells q_X_now_people q_X_now_people_cells q_X_day q_X_day_talkers q_X_now_settings q_X_rule q_X_rule_known q_X_rule_stack q_X_rule_row u_X_now_talks u_X_now_dues u_X_now_rule u_X_now_stake u_X_now_sights_limit u_X_now_people_limit u_X_day_clocks u_X_day_isStale u_X_rule_place u_X_rule_isStale N_X_now_sights_cells N_X_now_people_cells v_X_guess_sets t1 v_X_guess_surely v_X_guess_isStale a_X_guess_seen v_X_now_sights_width v_X_now_sights_size a_X_now_sights_cells v_X_now_people_width v_X_now_people_size a_X_now_people_cells a_X_day_talkers a_X_now_settings v_X_rule_size v_X_rule_fault a_X_rule_known a_X_rule_stack a_X_rule_row)) rfl (fun H locs hP hD hS => ?_)
    refine lv_aload_n hx hb dX3_refresh_96 rfl (lv_at hl 0 rfl) ?_
    refine lv_dup hx hb dX3_refresh_97 rfl ?_
    refine zget (C := RX3) (T := TX3) (N := 7) S hK hP 0 rfl rfl 5 (Nat.le_of_ble_eq_true rfl) zf_3 zw_949 rfl dX3_refresh_98 ?_
    refine lv_iload_n hx hb dX3_refresh_101 rfl (lv_at hl 3 rfl) ?_
    refine lv_iand hx hb dX3_refresh_102 ?_
    refine zputf (C := RX3) (T := TX3) (N := 7) (ty := .int) S hK hP hD hS 0 rfl rfl 5 (Nat.le_of_ble_eq_true rfl) zf_3 tyX3 tyX3_ok nmX3 zw_949 rfl (by decide +kernel) rfl rfl (Nat.le_of_ble_eq_true rfl) dX3_refresh_103 (w2 := (ws_X3_refresh cI cJ cZ cA q_X_guess q_X_guess_seen q_X_now q_X_now_sights q_X_now_sights_cells q_X_now_people q_X_now_people_cells q_X_day q_X_day_talkers q_X_now_settings q_X_rule q_X_rule_known q_X_rule_stack q_X_rule_row u_X_now_talks u_X_now_dues u_X_now_rule u_X_now_stake u_X_now_sights_limit u_X_now_people_limit u_X_day_clocks u_X_day_isStale u_X_rule_place u_X_rule_isStale N_X_now_sights_cells N_X_now_people_cells v_X_guess_sets t1 (v_X_guess_surely &&& x3) v_X_guess_isStale a_X_guess_seen v_X_now_sights_width v_X_now_sights_size a_X_now_sights_cells v_X_now_people_width v_X_now_people_size a_X_now_people_cells a_X_day_talkers a_X_now_settings v_X_rule_size v_X_rule_fault a_X_rule_known a_X_rule_stack a_X_rule_row)) rfl (fun H locs hP hD hS => ?_)
    refine lv_aload_n hx hb dX3_refresh_106 rfl (lv_at hl 0 rfl) ?_
    refine lv_dup hx hb dX3_refresh_107 rfl ?_
    refine zget (C := RX3) (T := TX3) (N := 7) S hK hP 0 rfl rfl 3 (Nat.le_of_ble_eq_true rfl) zf_3 zw_947 rfl dX3_refresh_108 ?_
    refine lv_iconst (v := 1) hx hb dX3_refresh_111 (by decide) ?_
    refine lv_iadd hx hb dX3_refresh_112 ?_
    refine zputf (C := RX3) (T := TX3) (N := 7) (ty := .int) S hK hP hD hS 0 rfl rfl 3 (Nat.le_of_ble_eq_true rfl) zf_3 tyX3 tyX3_ok nmX3 zw_947 rfl (by decide +kernel) rfl rfl (Nat.le_of_ble_eq_true rfl) dX3_refresh_113 (w2 := (ws_X3_refresh cI cJ cZ cA q_X_guess q_X_guess_seen q_X_now q_X_now_sights q_X_now_sights_cells q_X_now_people q_X_now_people_cells q_X_day q_X_day_talkers q_X_now_settings q_X_rule q_X_rule_known q_X_rule_stack q_X_rule_row u_X_now_talks u_X_now_dues u_X_now_rule u_X_now_stake u_X_now_sights_limit u_X_now_people_limit u_X_day_clocks u_X_day_isStale u_X_rule_place u_X_rule_isStale N_X_now_sights_cells N_X_now_people_cells (v_X_guess_sets + 1) t1 (v_X_guess_surely &&& x3) v_X_guess_isStale a_X_guess_seen v_X_now_sights_width v_X_now_sights_size a_X_now_sights_cells v_X_now_people_width v_X_now_people_size a_X_now_people_cells a_X_day_talkers a_X_now_settings v_X_rule_size v_X_rule_fault a_X_rule_known a_X_rule_stack a_X_rule_row)) rfl (fun H locs hP hD hS => ?_)
    exact B116 k55 hk55 x1 x2 x3 (v_X_guess_sets + 1) t1 (v_X_guess_surely &&& x3) v_X_guess_isStale a_X_guess_seen a_X_rule_known a_X_rule_stack _ _ _ hl hP hD hS hg
  have B55 : ∀  (n : Nat) (x1 : Int32) (x2 : Int32) (x3 : Int32) (v_X_guess_sets : Int32) (v_X_guess_least : Int32) (v_X_guess_surely : Int32) (v_X_guess_isStale : Int32) (a_X_guess_seen : Nat → Int32) (a_X_rule_known : Nat → Int32) (a_X_rule_stack : Nat → Int64) (H : Heap) (locs : List Loc) (ls : Array Slot) (hl : lv_has ls 4 [(0, .ref q_X_guess), (1, .int x1), (2, .int x2), (3, .int x3)]) (hP : va_P D vwCl (ws_X3_refresh cI cJ cZ cA q_X_guess q_X_guess_seen q_X_now q_X_now_sights q_X_now_sights_cells q_X_now_people q_X_now_people_cells q_X_day q_X_day_talkers q_X_now_settings q_X_rule q_X_rule_known q_X_rule_stack q_X_rule_row u_X_now_talks u_X_now_dues u_X_now_rule u_X_now_stake u_X_now_sights_limit u_X_now_people_limit u_X_day_clocks u_X_day_isStale u_X_rule_place u_X_rule_isStale N_X_now_sights_cells N_X_now_people_cells v_X_guess_sets v_X_guess_least v_X_guess_surely v_X_guess_isStale a_X_guess_seen v_X_now_sights_width v_X_now_sights_size a_X_now_sights_cells v_X_now_people_width v_X_now_people_size a_X_now_people_cells a_X_day_talkers a_X_now_settings v_X_rule_size v_X_rule_fault a_X_rule_known a_X_rule_stack a_X_rule_row) H) (hD : va_D A (ws_X3_refresh cI cJ cZ cA q_X_guess q_X_guess_seen q_X_now q_X_now_sights q_X_now_sights_cells q_X_now_people q_X_now_people_cells q_X_day q_X_day_talkers q_X_now_settings q_X_rule q_X_rule_known q_X_rule_stack q_X_rule_row u_X_now_talks u_X_now_dues u_X_now_rule u_X_now_stake u_X_now_sights_limit u_X_now_people_limit u_X_day_clocks u_X_day_isStale u_X_rule_place u_X_rule_isStale N_X_now_sights_cells N_X_now_people_cells v_X_guess_sets v_X_guess_least v_X_guess_surely v_X_guess_isStale a_X_guess_seen v_X_now_sights_width v_X_now_sights_size a_X_now_sights_cells v_X_now_people_width v_X_now_people_size a_X_now_people_cells a_X_day_talkers a_X_now_settings v_X_rule_size v_X_rule_fault a_X_rule_known a_X_rule_stack a_X_rule_row)) (hS : va_S A s.heap H locs), g_X3_refresh_55 N_X_now_sights_cells N_X_now_people_cells v_X_now_sights_width v_X_now_sights_size a_X_now_sights_cells v_X_now_people_width v_X_now_people_size a_X_now_people_cells a_X_day_talkers a_X_now_settings v_X_rule_size v_X_rule_fault a_X_rule_row n x1 x2 x3 v_X_guess_sets v_X_guess_least v_X_guess_surely v_X_guess_isStale a_X_guess_seen a_X_rule_known a_X_rule_stack = some o → W p l e rm_X3_refresh s m args below meth c H locs 0 0 Q (F0 m 55 ls []) := by
    intro  n
    induction n with
    | zero => intro x1 x2 x3 v_X_guess_sets v_X_guess_least v_X_guess_surely v_X_guess_isStale a_X_guess_seen a_X_rule_known a_X_rule_stack H locs ls hl hP hD hS hg; exact nomatch (show (none : Option (Int32 × Int32 × Int32 × Int32 × (Nat → Int32) × (Nat → Int32) × (Nat → Int64))) = some o from hg)
    | succ n ih =>
      intro x1 x2 x3 v_X_guess_sets v_X_guess_least v_X_guess_surely v_X_guess_isStale a_X_guess_seen a_X_rule_known a_X_rule_stack H locs ls hl hP hD hS hg
      have hg : g_X3_refresh_55b N_X_now_sights_cells N_X_now_people_cells v_X_now_sights_width v_X_now_sights_size a_X_now_sights_cells v_X_now_people_width v_X_now_people_size a_X_now_people_cells a_X_day_talkers a_X_now_settings v_X_rule_size v_X_rule_fault a_X_rule_row (g_X3_refresh_55 N_X_now_sights_cells N_X_now_people_cells v_X_now_sights_width v_X_now_sights_size a_X_now_sights_cells v_X_now_people_width v_X_now_people_size a_X_now_people_cells a_X_day_talkers a_X_now_settings v_X_rule_size v_X_rule_fault a_X_rule_row n) x1 x2 x3 v_X_guess_sets v_X_guess_least v_X_guess_surely v_X_guess_isStale a_X_guess_seen a_X_rule_known a_X_rule_stack = some o := hg
      refine lv_iload_n hx hb dX3_refresh_55 rfl (lv_at hl 3 rfl) ?_
      refine lv_iload_n hx hb dX3_refresh_56 rfl (lv_at hl 2 rfl) ?_
      refine lv_icmp_gt (tgt := 122) hx hb dX3_refresh_57 (by decide) (fun h57 => ?_) (fun h57 => ?_)
      · have hg := zp hg h57
        exact hret v_X_guess_sets v_X_guess_least v_X_guess_surely v_X_guess_isStale a_X_guess_seen a_X_rule_known a_X_rule_stack hg _ _ _ _ hP hS dX3_refresh_122
      · have hg := zn hg h57
        refine lv_iload_n hx hb dX3_refresh_60 rfl (lv_at hl 3 rfl) ?_
        refine lv_iload_n hx hb dX3_refresh_61 rfl (lv_at hl 2 rfl) ?_
        refine lv_iconst (v := (-1)) hx hb dX3_refresh_62 (by decide) ?_
        refine lv_ixor hx hb dX3_refresh_63 ?_
        refine lv_iand hx hb dX3_refresh_64 ?_
        refine lv_if_ne (tgt := 116) hx hb dX3_refresh_65 (by decide) (fun h65 => ?_) (fun h65 => ?_)
        · have hg := zn hg h65
          exact B116 (g_X3_refresh_55 N_X_now_sights_cells N_X_now_people_cells v_X_now_sights_width v_X_now_sights_size a_X_now_sights_cells v_X_now_people_width v_X_now_people_size a_X_now_people_cells a_X_day_talkers a_X_now_settings v_X_rule_size v_X_rule_fault a_X_rule_row n) ih x1 x2 x3 v_X_guess_sets v_X_guess_least v_X_guess_surely v_X_guess_isStale a_X_guess_seen a_X_rule_known a_X_rule_stack _ _ _ hl hP hD hS hg
        · have hg := zp hg h65
          refine lv_aload_n hx hb dX3_refresh_68 rfl (lv_at hl 0 rfl) ?_
          refine lv_iload_n hx hb dX3_refresh_69 rfl (lv_at hl 3 rfl) ?_
          refine lv_iload_n hx hb dX3_refresh_70 rfl (lv_at hl 1 rfl) ?_
          obtain ⟨v7, hc8, hg⟩ := zbd hg
          refine zcallV (rest := []) S (c_X3_fits l D cI cJ cZ cA ga q_X_guess q_X_guess_seen q_X_day q_X_now q_X_now_people q_X_day_talkers q_X_now_people_cells q_X_now_settings q_X_rule q_X_rule_known q_X_rule_stack q_X_rule_row (.int v_X_guess_sets) (.int v_X_guess_least) (.int v_X_guess_surely) (.int v_X_guess_isStale) u_X_now_talks u_X_now_dues (.ref q_X_now_sights) u_X_now_rule u_X_now_stake u_X_now_people_limit u_X_day_clocks u_X_day_isStale u_X_rule_place u_X_rule_isStale N_X_now_people_cells a_X_guess_seen v_X_now_people_width v_X_now_people_size a_X_day_talkers a_X_now_people_cells a_X_now_settings v_X_rule_size v_X_rule_fault a_X_rule_known a_X_rule_stack a_X_rule_row x3 x1 v7 hc8) (zgV zw_964 zw_965 zw_966 zw_49 zw_967) rfl hd_X3_fits ⟨rfl, rfl⟩ ⟨Nat.le_of_ble_eq_true rfl, Nat.le_of_ble_eq_true rfl⟩ 0 3 rfl rfl rfl hl.1 rfl (Nat.le_of_ble_eq_true rfl) dX3_refresh_71 hP hD hS hA hK hG (isC := [0, 1, 2, 5, 7, 8, 6, 9, 10, 11, 12, 13]) rfl (by decide +kernel) rfl ⟨Nat.zero_le _, Nat.zero_le _⟩ (pl := [some 0, some 1, some 2, none, none, some 3, some 6, some 4, some 5, some 7, some 8, some 9, some 10, some 11]) (nw := 14) rfl (by decide +kernel) (w2 := (ws_X3_refresh cI cJ cZ cA q_X_guess q_X_guess_seen q_X_now q_X_now_sights q_X_now_sights_cells q_X_now_people q_X_now_people_cells q_X_day q_X_day_talkers q_X_now_settings q_X_rule q_X_rule_known q_X_rule_stack q_X_rule_row u_X_now_talks u_X_now_dues u_X_now_rule u_X_now_stake u_X_now_sights_limit u_X_now_people_limit u_X_day_clocks u_X_day_isStale u_X_rule_place u_X_rule_isStale N_X_now_sights_cells N_X_now_people_cells v_X_guess_sets v_X_guess_least v_X_guess_surely v_X_guess_isStale a_X_guess_seen v_X_now_sights_width v_X_now_sights_size a_X_now_sights_cells v_X_now_people_width v_X_now_people_size a_X_now_people_cells a_X_day_talkers a_X_now_settings v_X_rule_size v_X_rule_fault v7.2.1 v7.2.2 a_X_rule_row)) rfl (st1 := [.int v7.1]) rfl (fun H locs hP hD hS => ?_)
          refine lv_if_eq (tgt := 116) hx hb dX3_refresh_74 (by decide) (fun h74 => ?_) (fun h74 => ?_)
          · have hg := zp hg h74
            exact B116 (g_X3_refresh_55 N_X_now_sights_cells N_X_now_people_cells v_X_now_sights_width v_X_now_sights_size a_X_now_sights_cells v_X_now_people_width v_X_now_people_size a_X_now_people_cells a_X_day_talkers a_X_now_settings v_X_rule_size v_X_rule_fault a_X_rule_row n) ih x1 x2 x3 v_X_guess_sets v_X_guess_least v_X_guess_surely v_X_guess_isStale a_X_guess_seen v7.2.1 v7.2.2 _ _ _ hl hP hD hS hg
          · have hg := zn hg h74
            refine lv_aload_n hx hb dX3_refresh_77 rfl (lv_at hl 0 rfl) ?_
            refine lv_aload_n hx hb dX3_refresh_78 rfl (lv_at hl 0 rfl) ?_
            refine zget (C := RX3) (T := TX3) (N := 7) S hK hP 0 rfl rfl 3 (Nat.le_of_ble_eq_true rfl) zf_3 zw_947 rfl dX3_refresh_79 ?_
            refine lv_if_ne (tgt := 89) hx hb dX3_refresh_82 (by decide) (fun h82 => ?_) (fun h82 => ?_)
            · have hg := zn hg h82
              refine lv_aload_n hx hb dX3_refresh_89 rfl (lv_at hl 0 rfl) ?_
              refine zget (C := RX3) (T := TX3) (N := 7) S hK hP 0 rfl rfl 4 (Nat.le_of_ble_eq_true rfl) zf_3 zw_948 rfl dX3_refresh_90 ?_
              exact B93 (g_X3_refresh_55 N_X_now_sights_cells N_X_now_people_cells v_X_now_sights_width v_X_now_sights_size a_X_now_sights_cells v_X_now_people_width v_X_now_people_size a_X_now_people_cells a_X_day_talkers a_X_now_settings v_X_rule_size v_X_rule_fault a_X_rule_row n) ih x1 x2 x3 v_X_guess_least v_X_guess_sets v_X_guess_least v_X_guess_surely v_X_guess_isStale a_X_guess_seen v7.2.1 v7.2.2 _ _ _ hl hP hD hS hg
            · have hg := zp hg h82
              refine lv_iload_n hx hb dX3_refresh_85 rfl (lv_at hl 3 rfl) ?_
              refine lv_goto (tgt := 93) hx hb dX3_refresh_86 (by decide) ?_
              exact B93 (g_X3_refresh_55 N_X_now_sights_cells N_X_now_people_cells v_X_now_sights_width v_X_now_sights_size a_X_now_sights_cells v_X_now_people_width v_X_now_people_size a_X_now_people_cells a_X_day_talkers a_X_now_settings v_X_rule_size v_X_rule_fault a_X_rule_row n) ih x1 x2 x3 x3 v_X_guess_sets v_X_guess_least v_X_guess_surely v_X_guess_isStale a_X_guess_seen v7.2.1 v7.2.2 _ _ _ hl hP hD hS hg
  refine lv_aload_n hx hb dX3_refresh_0 rfl (lv_at hl 0 rfl) ?_
  refine zget (C := RX3) (T := TX3) (N := 7) S hK hP 0 rfl rfl 6 (Nat.le_of_ble_eq_true rfl) zf_3 zw_142 rfl dX3_refresh_1 ?_
  refine lv_if_ne (tgt := 8) hx hb dX3_refresh_4 (by decide) (fun h4 => ?_) (fun h4 => ?_)
  · have hg := zn hg h4
    refine lv_aload_n hx hb dX3_refresh_8 rfl (lv_at hl 0 rfl) ?_
    refine lv_iconst (v := 0) hx hb dX3_refresh_9 (by decide) ?_
    refine zputf (C := RX3) (T := TX3) (N := 7) (ty := .boolean) S hK hP hD hS 0 rfl rfl 6 (Nat.le_of_ble_eq_true rfl) zf_3 tyX3 tyX3_ok nmX3 zw_142 rfl (by decide +kernel) rfl rfl (Nat.le_of_ble_eq_true rfl) dX3_refresh_10 (w2 := (ws_X3_refresh cI cJ cZ cA q_X_guess q_X_guess_seen q_X_now q_X_now_sights q_X_now_sights_cells q_X_now_people q_X_now_people_cells q_X_day q_X_day_talkers q_X_now_settings q_X_rule q_X_rule_known q_X_rule_stack q_X_rule_row u_X_now_talks u_X_now_dues u_X_now_rule u_X_now_stake u_X_now_sights_limit u_X_now_people_limit u_X_day_clocks u_X_day_isStale u_X_rule_place u_X_rule_isStale N_X_now_sights_cells N_X_now_people_cells v_X_guess_sets v_X_guess_least v_X_guess_surely 0 a_X_guess_seen v_X_now_sights_width v_X_now_sights_size a_X_now_sights_cells v_X_now_people_width v_X_now_people_size a_X_now_people_cells a_X_day_talkers a_X_now_settings v_X_rule_size v_X_rule_fault a_X_rule_known a_X_rule_stack a_X_rule_row)) rfl (fun H locs hP hD hS => ?_)
    refine lv_aload_n hx hb dX3_refresh_13 rfl (lv_at hl 0 rfl) ?_
    refine lv_iconst (v := 0) hx hb dX3_refresh_14 (by decide) ?_
    refine zputf (C := RX3) (T := TX3) (N := 7) (ty := .int) S hK hP hD hS 0 rfl rfl 3 (Nat.le_of_ble_eq_true rfl) zf_3 tyX3 tyX3_ok nmX3 zw_947 rfl (by decide +kernel) rfl rfl (Nat.le_of_ble_eq_true rfl) dX3_refresh_15 (w2 := (ws_X3_refresh cI cJ cZ cA q_X_guess q_X_guess_seen q_X_now q_X_now_sights q_X_now_sights_cells q_X_now_people q_X_now_people_cells q_X_day q_X_day_talkers q_X_now_settings q_X_rule q_X_rule_known q_X_rule_stack q_X_rule_row u_X_now_talks u_X_now_dues u_X_now_rule u_X_now_stake u_X_now_sights_limit u_X_now_people_limit u_X_day_clocks u_X_day_isStale u_X_rule_place u_X_rule_isStale N_X_now_sights_cells N_X_now_people_cells 0 v_X_guess_least v_X_guess_surely 0 a_X_guess_seen v_X_now_sights_width v_X_now_sights_size a_X_now_sights_cells v_X_now_people_width v_X_now_people_size a_X_now_people_cells a_X_day_talkers a_X_now_settings v_X_rule_size v_X_rule_fault a_X_rule_known a_X_rule_stack a_X_rule_row)) rfl (fun H locs hP hD hS => ?_)
    refine lv_aload_n hx hb dX3_refresh_18 rfl (lv_at hl 0 rfl) ?_
    refine lv_iconst (v := (-1)) hx hb dX3_refresh_19 (by decide) ?_
    refine zputf (C := RX3) (T := TX3) (N := 7) (ty := .int) S hK hP hD hS 0 rfl rfl 4 (Nat.le_of_ble_eq_true rfl) zf_3 tyX3 tyX3_ok nmX3 zw_948 rfl (by decide +kernel) rfl rfl (Nat.le_of_ble_eq_true rfl) dX3_refresh_20 (w2 := (ws_X3_refresh cI cJ cZ cA q_X_guess q_X_guess_seen q_X_now q_X_now_sights q_X_now_sights_cells q_X_now_people q_X_now_people_cells q_X_day q_X_day_talkers q_X_now_settings q_X_rule q_X_rule_known q_X_rule_stack q_X_rule_row u_X_now_talks u_X_now_dues u_X_now_rule u_X_now_stake u_X_now_sights_limit u_X_now_people_limit u_X_day_clocks u_X_day_isStale u_X_rule_place u_X_rule_isStale N_X_now_sights_cells N_X_now_people_cells 0 (-1) v_X_guess_surely 0 a_X_guess_seen v_X_now_sights_width v_X_now_sights_size a_X_now_sights_cells v_X_now_people_width v_X_now_people_size a_X_now_people_cells a_X_day_talkers a_X_now_settings v_X_rule_size v_X_rule_fault a_X_rule_known a_X_rule_stack a_X_rule_row)) rfl (fun H locs hP hD hS => ?_)
    refine lv_aload_n hx hb dX3_refresh_23 rfl (lv_at hl 0 rfl) ?_
    refine lv_iconst (v := (-1)) hx hb dX3_refresh_24 (by decide) ?_
    refine zputf (C := RX3) (T := TX3) (N := 7) (ty := .int) S hK hP hD hS 0 rfl rfl 5 (Nat.le_of_ble_eq_true rfl) zf_3 tyX3 tyX3_ok nmX3 zw_949 rfl (by decide +kernel) rfl rfl (Nat.le_of_ble_eq_true rfl) dX3_refresh_25 (w2 := (ws_X3_refresh cI cJ cZ cA q_X_guess q_X_guess_seen q_X_now q_X_now_sights q_X_now_sights_cells q_X_now_people q_X_now_people_cells q_X_day q_X_day_talkers q_X_now_settings q_X_rule q_X_rule_known q_X_rule_stack q_X_rule_row u_X_now_talks u_X_now_dues u_X_now_rule u_X_now_stake u_X_now_sights_limit u_X_now_people_limit u_X_day_clocks u_X_day_isStale u_X_rule_place u_X_rule_isStale N_X_now_sights_cells N_X_now_people_cells 0 (-1) (-1) 0 a_X_guess_seen v_X_now_sights_width v_X_now_sights_size a_X_now_sights_cells v_X_now_people_width v_X_now_people_size a_X_now_people_cells a_X_day_talkers a_X_now_settings v_X_rule_size v_X_rule_fault a_X_rule_known a_X_rule_stack a_X_rule_row)) rfl (fun H locs hP hD hS => ?_)
    refine lv_aload_n hx hb dX3_refresh_28 rfl (lv_at hl 0 rfl) ?_
    obtain ⟨v1, hc2, hg⟩ := zbd hg
    refine zcallV (rest := []) S (c_X3_noteSights l D cI cJ cZ cA ga q_X_guess q_X_guess_seen q_X_now q_X_now_sights q_X_now_sights_cells (.ref q_X_day) (.int 0) (.int (-1)) (.int (-1)) (.int 0) (.ref q_X_now_people) u_X_now_talks u_X_now_dues u_X_now_rule (.ref q_X_now_settings) u_X_now_stake u_X_now_sights_limit N_X_now_sights_cells a_X_guess_seen v_X_now_sights_width v_X_now_sights_size a_X_now_sights_cells v1 hc2) (zgV zw_951 zw_952 zw_953 zw_49 zw_954) rfl hd_X3_noteSights ⟨rfl, rfl⟩ ⟨Nat.le_of_ble_eq_true rfl, Nat.le_of_ble_eq_true rfl⟩ 0 3 rfl rfl rfl hl.1 rfl (Nat.le_of_ble_eq_true rfl) dX3_refresh_29 hP hD hS hA hK hG (isC := [0, 1, 2, 3, 4]) rfl (by decide +kernel) rfl ⟨Nat.zero_le _, Nat.zero_le _⟩ (pl := [some 0, some 1, some 2, some 3, some 4, none, none, none, none, none, none, none, none, none]) (nw := 14) rfl (by decide +kernel) (w2 := (ws_X3_refresh cI cJ cZ cA q_X_guess q_X_guess_seen q_X_now q_X_now_sights q_X_now_sights_cells q_X_now_people q_X_now_people_cells q_X_day q_X_day_talkers q_X_now_settings q_X_rule q_X_rule_known q_X_rule_stack q_X_rule_row u_X_now_talks u_X_now_dues u_X_now_rule u_X_now_stake u_X_now_sights_limit u_X_now_people_limit u_X_day_clocks u_X_day_isStale u_X_rule_place u_X_rule_isStale N_X_now_sights_cells N_X_now_people_cells 0 (-1) (-1) 0 v1.2 v_X_now_sights_width v_X_now_sights_size a_X_now_sights_cells v_X_now_people_width v_X_now_people_size a_X_now_people_cells a_X_day_talkers a_X_now_settings v_X_rule_size v_X_rule_fault a_X_rule_known a_X_rule_stack a_X_rule_row)) rfl (st1 := [.int v1.1]) rfl (fun H locs hP hD hS => ?_)
    refine lv_if_ne (tgt := 36) hx hb dX3_refresh_32 (by decide) (fun h32 => ?_) (fun h32 => ?_)
    · have hg := zn hg h32
      refine lv_aload_n hx hb dX3_refresh_36 rfl (lv_at hl 0 rfl) ?_
      refine zget (C := RX3) (T := TX3) (N := 7) S hK hP 0 rfl rfl 0 (Nat.le_of_ble_eq_true rfl) zf_3 zw_143 rfl dX3_refresh_37 ?_
      refine zget (C := RX9) (T := TX9) (N := 7) S hK hP 2 rfl rfl 3 (Nat.le_of_ble_eq_true rfl) zf_9 zw_950 rfl dX3_refresh_40 ?_
      refine lv_iconst (v := 0) hx hb dX3_refresh_43 (by decide) ?_
      obtain ⟨v3, hc4, hg⟩ := zbd hg
      refine zcallV (rest := []) S (c_X7_greatest l D cI cJ cZ cA ga q_X_now_sights q_X_now_sights_cells u_X_now_sights_limit N_X_now_sights_cells v_X_now_sights_width v_X_now_sights_size a_X_now_sights_cells 0 v3 hc4) (zgV zw_958 zw_741 zw_742 zw_32 zw_743) rfl hd_X7_greatest ⟨rfl, rfl⟩ ⟨Nat.le_of_ble_eq_true rfl, Nat.le_of_ble_eq_true rfl⟩ 3 7 rfl rfl rfl hl.1 rfl (Nat.le_of_ble_eq_true rfl) dX3_refresh_44 hP hD hS hA hK hG (isC := [3, 4]) rfl (by decide +kernel) rfl ⟨Nat.zero_le _, Nat.zero_le _⟩ (pl := [none, none, none, some 0, some 1, none, none, none, none, none, none, none, none, none]) (nw := 14) rfl (by decide +kernel) (w2 := (ws_X3_refresh cI cJ cZ cA q_X_guess q_X_guess_seen q_X_now q_X_now_sights q_X_now_sights_cells q_X_now_people q_X_now_people_cells q_X_day q_X_day_talkers q_X_now_settings q_X_rule q_X_rule_known q_X_rule_stack q_X_rule_row u_X_now_talks u_X_now_dues u_X_now_rule u_X_now_stake u_X_now_sights_limit u_X_now_people_limit u_X_day_clocks u_X_day_isStale u_X_rule_place u_X_rule_isStale N_X_now_sights_cells N_X_now_people_cells 0 (-1) (-1) 0 v1.2 v_X_now_sights_width v_X_now_sights_size a_X_now_sights_cells v_X_now_people_width v_X_now_people_size a_X_now_people_cells a_X_day_talkers a_X_now_settings v_X_rule_size v_X_rule_fault a_X_rule_known a_X_rule_stack a_X_rule_row)) rfl (st1 := [.int v3]) rfl (fun H locs hP hD hS => ?_)
      refine lv_istore_n (lv' := [(1, .int v3), (0, .ref q_X_guess)]) hx hb dX3_refresh_47 rfl hl (by decide) rfl (fun ls hl => ?_)
      refine lv_aload_n hx hb dX3_refresh_48 rfl (lv_at hl 1 rfl) ?_
      obtain ⟨v5, hc6, hg⟩ := zbd hg
      refine zcallV (rest := []) S (c_X3_peopleThere l D cI cJ cZ cA ga q_X_guess q_X_now q_X_now_people q_X_now_people_cells (.ref q_X_day) (.ref q_X_guess_seen) (.int 0) (.int (-1)) (.int (-1)) (.int 0) u_X_now_talks u_X_now_dues (.ref q_X_now_sights) u_X_now_rule (.ref q_X_now_settings) u_X_now_stake u_X_now_people_limit N_X_now_people_cells v_X_now_people_width v_X_now_people_size a_X_now_people_cells v5 hc6) (zgV zw_959 zw_960 zw_961 zw_49 zw_962) rfl hd_X3_peopleThere ⟨rfl, rfl⟩ ⟨Nat.le_of_ble_eq_true rfl, Nat.le_of_ble_eq_true rfl⟩ 0 3 rfl rfl rfl hl.1 rfl (Nat.le_of_ble_eq_true rfl) dX3_refresh_49 hP hD hS hA hK hG (isC := [0, 2, 5, 6]) rfl (by decide +kernel) rfl ⟨Nat.zero_le _, Nat.zero_le _⟩ (pl := [some 0, none, some 1, none, none, some 2, some 3, none, none, none, none, none, none, none]) (nw := 14) rfl (by decide +kernel) (w2 := (ws_X3_refresh cI cJ cZ cA q_X_guess q_X_guess_seen q_X_now q_X_now_sights q_X_now_sights_cells q_X_now_people q_X_now_people_cells q_X_day q_X_day_talkers q_X_now_settings q_X_rule q_X_rule_known q_X_rule_stack q_X_rule_row u_X_now_talks u_X_now_dues u_X_now_rule u_X_now_stake u_X_now_sights_limit u_X_now_people_limit u_X_day_clocks u_X_day_isStale u_X_rule_place u_X_rule_isStale N_X_now_sights_cells N_X_now_people_cells 0 (-1) (-1) 0 v1.2 v_X_now_sights_width v_X_now_sights_size a_X_now_sights_cells v_X_now_people_width v_X_now_people_size a_X_now_people_cells a_X_day_talkers a_X_now_settings v_X_rule_size v_X_rule_fault a_X_rule_known a_X_rule_stack a_X_rule_row)) rfl (st1 := [.int v5]) rfl (fun H locs hP hD hS => ?_)
      refine lv_istore_n (lv' := [(2, .int v5), (1, .int v3), (0, .ref q_X_guess)]) hx hb dX3_refresh_52 rfl hl (by decide) rfl (fun ls hl => ?_)
      refine lv_iconst (v := 0) hx hb dX3_refresh_53 (by decide) ?_
      refine lv_istore_n (lv' := [(3, .int 0), (2, .int v5), (1, .int v3), (0, .ref q_X_guess)]) hx hb dX3_refresh_54 rfl hl (by decide) rfl (fun ls hl => ?_)
      exact B55 zF v3 v5 0 0 (-1) (-1) 0 v1.2 a_X_rule_known a_X_rule_stack _ _ _ (lv_sub hl [3, 2, 1, 0] rfl) hP hD hS hg
    · have hg := zp hg h32
      exact hret 0 (-1) (-1) 0 v1.2 a_X_rule_known a_X_rule_stack hg _ _ _ _ hP hS dX3_refresh_35
  · have hg := zp hg h4
    exact hret v_X_guess_sets v_X_guess_least v_X_guess_surely v_X_guess_isStale a_X_guess_seen a_X_rule_known a_X_rule_stack hg _ _ _ _ hP hS dX3_refresh_7

/-! SpokenClock$Guess.told(I)I -/
abbrev ws_X3_told (cI cJ cZ cA : ClassId) (q_X_guess : Nat) (u_X_guess_state : Value) (u_X_guess_day : Value) (u_X_guess_seen : Value) (u_X_guess_isStale : Value) (v_X_guess_sets : Int32) (v_X_guess_least : Int32) (v_X_guess_surely : Int32) : va_W := [(q_X_guess, .inr (3, [u_X_guess_state, u_X_guess_day, u_X_guess_seen, .int v_X_guess_sets, .int v_X_guess_least, .int v_X_guess_surely, u_X_guess_isStale]))]
abbrev rm_X3_told : Room := { frames := 0, cells := 0, slots := 0, locals := 0 }
def g_X3_told (v_X_guess_sets : Int32) (v_X_guess_least : Int32) (v_X_guess_surely : Int32) (x1 : Int32) : Option (Int32) :=
  if x1 = 0 then (
    some (v_X_guess_sets)
  ) else
  if x1 = 1 then (
    some (v_X_guess_least)
  ) else
  (
    some (v_X_guess_surely)
  )
theorem hd_X3_told : yX3_told.cls = RX3 ∧ yX3_told.cls ≠ "java/lang/invoke/MethodHandle" ∧ yX3_told.cls ≠ "java/lang/invoke/VarHandle" ∧ (parseMethodDescriptor yX3_told.desc).map (fun d => d.parameters.length) = some 1 := by decide +kernel
set_option maxHeartbeats 4000000 in
set_option maxRecDepth 100000 in
theorem c_X3_told (l : Launch) (D : va_G) (cI cJ cZ cA : ClassId) (ga : Nat → Nat) (q_X_guess : Nat) (u_X_guess_state : Value) (u_X_guess_day : Value) (u_X_guess_seen : Value) (u_X_guess_isStale : Value) (v_X_guess_sets : Int32) (v_X_guess_least : Int32) (v_X_guess_surely : Int32) (x1 : Int32) (o : Int32) (hg : g_X3_told v_X_guess_sets v_X_guess_least v_X_guess_surely x1 = some o) : zM l yX3_told (Cond.code yX3_told cX3_told 2 (some .int) :: wsL_law) rm_X3_told D (zTy cI cJ cZ cA) ga [.ref q_X_guess, .int x1] (ws_X3_told cI cJ cZ cA q_X_guess u_X_guess_state u_X_guess_day u_X_guess_seen u_X_guess_isStale v_X_guess_sets v_X_guess_least v_X_guess_surely) (ws_X3_told cI cJ cZ cA q_X_guess u_X_guess_state u_X_guess_day u_X_guess_seen u_X_guess_isStale v_X_guess_sets v_X_guess_least v_X_guess_surely) (some (.int o)) := by
  refine zenterI (own := RX3) (by decide) rfl rfl (Nat.le_of_ble_eq_true rfl) ?_
  intro p e s m args below meth c A ls Q S hA hK hG hl hP hD hS hret0
  have hx := S.1
  have hb := S.2.1
  have ht : ∀ w, w ∈ wsL_law → w.before args s = true := fun w h => S.2.2.2.2 w (List.mem_cons_of_mem _ h)
  have hret : ∀ (r9 : Int32), (some (r9) : Option (Int32)) = some o → ∀ (H : Heap) (locs : List Loc) (pc : Nat) (ls : Array Slot), va_P D vwCl (ws_X3_told cI cJ cZ cA q_X_guess u_X_guess_state u_X_guess_day u_X_guess_seen u_X_guess_isStale v_X_guess_sets v_X_guess_least v_X_guess_surely) H → va_S A s.heap H locs → decode cX3_told pc = .ok (.ireturn, 1) → W p l e rm_X3_told s m args below meth c H locs 0 0 Q (F0 m pc ls [.int r9]) := by
    intro r9 he; cases he; exact hret0
  have hl : lv_has ls 2 [(0, .ref q_X_guess), (1, .int x1)] := hl
  refine lv_iload_n hx hb dX3_told_0 rfl (lv_at hl 1 rfl) ?_
  by_cases h1_0 : x1 = 0
  · have hg := zp hg h1_0
    refine lv_lookup (off := 27) (tgt := 28) hx hb dX3_told_1 (by decide) (by rw [h1_0]; decide) (by decide) ?_
    refine lv_aload_n hx hb dX3_told_28 rfl (lv_at hl 0 rfl) ?_
    refine zget (C := RX3) (T := TX3) (N := 7) S hK hP 0 rfl rfl 3 (Nat.le_of_ble_eq_true rfl) zf_3 zw_947 rfl dX3_told_29 ?_
    exact hret v_X_guess_sets hg _ _ _ _ hP hS dX3_told_32
  · have hg := zn hg h1_0
    by_cases h1_1 : x1 = 1
    · have hg := zp hg h1_1
      refine lv_lookup (off := 32) (tgt := 33) hx hb dX3_told_1 (by decide) (by rw [h1_1]; decide) (by decide) ?_
      refine lv_aload_n hx hb dX3_told_33 rfl (lv_at hl 0 rfl) ?_
      refine zget (C := RX3) (T := TX3) (N := 7) S hK hP 0 rfl rfl 4 (Nat.le_of_ble_eq_true rfl) zf_3 zw_948 rfl dX3_told_34 ?_
      exact hret v_X_guess_least hg _ _ _ _ hP hS dX3_told_37
    · have hg := zn hg h1_1
      refine lv_lookup (off := 37) (tgt := 38) hx hb dX3_told_1 (by decide) ((lv_osw h1_0 (by decide)).trans ((lv_osw h1_1 (by decide)).trans (rfl))) (by decide) ?_
      refine lv_aload_n hx hb dX3_told_38 rfl (lv_at hl 0 rfl) ?_
      refine zget (C := RX3) (T := TX3) (N := 7) S hK hP 0 rfl rfl 5 (Nat.le_of_ble_eq_true rfl) zf_3 zw_949 rfl dX3_told_39 ?_
      exact hret v_X_guess_surely hg _ _ _ _ hP hS dX3_told_42

