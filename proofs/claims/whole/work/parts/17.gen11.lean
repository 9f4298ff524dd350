/-! SpokenClockModel.compile()I -/
abbrev ws_X11_compile (cI cJ cZ cA : ClassId) (q_M q_M_held q_M_now q_M_wait q_M_act : Nat) (u_M_images : Value) (u_M_kept : Value) (u_M_text : Value) (u_M_size : Value) (u_M_sign : Value) (u_M_manyAbove : Value) (u_M_manyBelow : Value) (u_M_above : Value) (u_M_below : Value) (u_M_refused : Value) (u_M_at : Value) (u_M_begin : Value) (u_M_kind : Value) (u_M_value : Value) (u_M_read : Value) (u_M_heap : Value) (u_M_clocks : Value) (u_M_counts : Value) (u_M_talking : Value) (u_M_most : Value) (u_M_hasA : Value) (u_M_hasB : Value) (u_M_talks : Value) (u_M_big : Value) (v_M_acts : Int32) (v_M_waits : Int32) (v_M_place : Int32) (a_M_held : Nat → Int32) (a_M_now : Nat → Int32) (a_M_wait : Nat → Int32) (a_M_act : Nat → Int32) : va_W := [(q_M, .inr (11, [.ref q_M_now, u_M_images, u_M_kept, u_M_text, u_M_size, u_M_sign, u_M_manyAbove, u_M_manyBelow, u_M_above, u_M_below, u_M_refused, u_M_at, u_M_begin, u_M_kind, u_M_value, u_M_read, .int v_M_acts, .ref q_M_act, .int v_M_waits, .ref q_M_wait, .ref q_M_held, .int v_M_place, u_M_heap, u_M_clocks, u_M_counts, u_M_talking, u_M_most, u_M_hasA, u_M_hasB, u_M_talks, u_M_big])), (q_M_held, .inl (cZ, 9, .inl a_M_held)), (q_M_now, .inl (cI, 155, .inl a_M_now)), (q_M_wait, .inl (cI, 80, .inl a_M_wait)), (q_M_act, .inl (cI, 80, .inl a_M_act))]
abbrev rm_X11_compile : Room := { frames := 3, cells := 0, slots := 0, locals := 69 }
def g_X11_compile_223 (a_M_now : Nat → Int32) (v_M_acts : Int32) (v_M_waits : Int32) (v_M_place : Int32) (a_M_held : Nat → Int32) (a_M_wait : Nat → Int32) (a_M_act : Nat → Int32) : Option (Int32 × Int32 × Int32 × Int32 × (Nat → Int32) × (Nat → Int32) × (Nat → Int32)) :=
  some ((10 * v_M_place) + 1, v_M_acts, v_M_waits, v_M_place, a_M_held, a_M_wait, a_M_act)
def g_X11_compile_264 (a_M_now : Nat → Int32) (k26 : Int32 → Int32 → Int32 → Int32 → Int32 → (Nat → Int32) → (Nat → Int32) → (Nat → Int32) → Option (Int32 × Int32 × Int32 × Int32 × (Nat → Int32) × (Nat → Int32) × (Nat → Int32))) (x1 : Int32) (x3 : Int32) (x4 : Int32) (t1 : Int32) (t2 : Int32) (v_M_acts : Int32) (v_M_waits : Int32) (v_M_place : Int32) (a_M_held : Nat → Int32) (a_M_wait : Nat → Int32) (a_M_act : Nat → Int32) : Option (Int32 × Int32 × Int32 × Int32 × (Nat → Int32) × (Nat → Int32) × (Nat → Int32)) :=
  if t1 < 0 ∨ 9 ≤ t1.toNatClampNeg then none else
  (g_X11_does a_M_wait x4 v_M_acts v_M_waits a_M_act).bind fun v6 =>
  if v6.2.1 < 0 ∨ 80 ≤ v6.2.1.toNatClampNeg then none else
  k26 x1 1 v6.1 (v6.2.1 + 1) (v_M_place + 1) (upd a_M_held (t1.toNatClampNeg) (vp_nar .boolean t2)) (upd a_M_wait (v6.2.1.toNatClampNeg) x3) v6.2.2
def g_X11_compile_259 (a_M_now : Nat → Int32) (k26 : Int32 → Int32 → Int32 → Int32 → Int32 → (Nat → Int32) → (Nat → Int32) → (Nat → Int32) → Option (Int32 × Int32 × Int32 × Int32 × (Nat → Int32) × (Nat → Int32) × (Nat → Int32))) (x1 : Int32) (x3 : Int32) (x4 : Int32) (t1 : Int32) (v_M_acts : Int32) (v_M_waits : Int32) (v_M_place : Int32) (a_M_held : Nat → Int32) (a_M_wait : Nat → Int32) (a_M_act : Nat → Int32) : Option (Int32 × Int32 × Int32 × Int32 × (Nat → Int32) × (Nat → Int32) × (Nat → Int32)) :=
  g_X11_compile_264 a_M_now k26 x1 x3 x4 t1 1 v_M_acts v_M_waits v_M_place a_M_held a_M_wait a_M_act
def g_X11_compile_263 (a_M_now : Nat → Int32) (k26 : Int32 → Int32 → Int32 → Int32 → Int32 → (Nat → Int32) → (Nat → Int32) → (Nat → Int32) → Option (Int32 × Int32 × Int32 × Int32 × (Nat → Int32) × (Nat → Int32) × (Nat → Int32))) (x1 : Int32) (x3 : Int32) (x4 : Int32) (t1 : Int32) (v_M_acts : Int32) (v_M_waits : Int32) (v_M_place : Int32) (a_M_held : Nat → Int32) (a_M_wait : Nat → Int32) (a_M_act : Nat → Int32) : Option (Int32 × Int32 × Int32 × Int32 × (Nat → Int32) × (Nat → Int32) × (Nat → Int32)) :=
  g_X11_compile_264 a_M_now k26 x1 x3 x4 t1 0 v_M_acts v_M_waits v_M_place a_M_held a_M_wait a_M_act
def g_X11_compile_233 (a_M_now : Nat → Int32) (k26 : Int32 → Int32 → Int32 → Int32 → Int32 → (Nat → Int32) → (Nat → Int32) → (Nat → Int32) → Option (Int32 × Int32 × Int32 × Int32 × (Nat → Int32) × (Nat → Int32) × (Nat → Int32))) (x1 : Int32) (x3 : Int32) (x4 : Int32) (v_M_acts : Int32) (v_M_waits : Int32) (v_M_place : Int32) (a_M_held : Nat → Int32) (a_M_wait : Nat → Int32) (a_M_act : Nat → Int32) : Option (Int32 × Int32 × Int32 × Int32 × (Nat → Int32) × (Nat → Int32) × (Nat → Int32)) :=
  if x4 = 3 then (
    g_X11_compile_259 a_M_now k26 x1 x3 x4 x1 v_M_acts v_M_waits v_M_place a_M_held a_M_wait a_M_act
  ) else (
    if x4 ≤ 3 then (
      g_X11_compile_263 a_M_now k26 x1 x3 x4 x1 v_M_acts v_M_waits v_M_place a_M_held a_M_wait a_M_act
    ) else (
      if x1 < 0 ∨ 9 ≤ x1.toNatClampNeg then none else
      if (a_M_held (x1.toNatClampNeg)) = 0 then (
        g_X11_compile_263 a_M_now k26 x1 x3 x4 x1 v_M_acts v_M_waits v_M_place a_M_held a_M_wait a_M_act
      ) else (
        g_X11_compile_259 a_M_now k26 x1 x3 x4 x1 v_M_acts v_M_waits v_M_place a_M_held a_M_wait a_M_act
      )
    )
  )
def g_X11_compile_193 (a_M_now : Nat → Int32) (k26 : Int32 → Int32 → Int32 → Int32 → Int32 → (Nat → Int32) → (Nat → Int32) → (Nat → Int32) → Option (Int32 × Int32 × Int32 × Int32 × (Nat → Int32) × (Nat → Int32) × (Nat → Int32))) (x1 : Int32) (x3 : Int32) (t0 : Int32) (v_M_acts : Int32) (v_M_waits : Int32) (v_M_place : Int32) (a_M_held : Nat → Int32) (a_M_wait : Nat → Int32) (a_M_act : Nat → Int32) : Option (Int32 × Int32 × Int32 × Int32 × (Nat → Int32) × (Nat → Int32) × (Nat → Int32)) :=
  (g_X11_in t0.toInt64 (1 : Int64) (5 : Int64)).bind fun v3 =>
  if v3 = 0 then (
    g_X11_compile_223 a_M_now v_M_acts v_M_waits v_M_place a_M_held a_M_wait a_M_act
  ) else (
    if t0 = 3 then (
      if x1 < 0 ∨ 9 ≤ x1.toNatClampNeg then none else
      if (a_M_held (x1.toNatClampNeg)) = 0 then (
        g_X11_compile_233 a_M_now k26 x1 x3 t0 v_M_acts v_M_waits v_M_place a_M_held a_M_wait a_M_act
      ) else (
        g_X11_compile_223 a_M_now v_M_acts v_M_waits v_M_place a_M_held a_M_wait a_M_act
      )
    ) else (
      g_X11_compile_233 a_M_now k26 x1 x3 t0 v_M_acts v_M_waits v_M_place a_M_held a_M_wait a_M_act
    )
  )
def g_X11_compile_185 (a_M_now : Nat → Int32) (k26 : Int32 → Int32 → Int32 → Int32 → Int32 → (Nat → Int32) → (Nat → Int32) → (Nat → Int32) → Option (Int32 × Int32 × Int32 × Int32 × (Nat → Int32) × (Nat → Int32) × (Nat → Int32))) (x1 : Int32) (x3 : Int32) (v_M_acts : Int32) (v_M_waits : Int32) (v_M_place : Int32) (a_M_held : Nat → Int32) (a_M_wait : Nat → Int32) (a_M_act : Nat → Int32) : Option (Int32 × Int32 × Int32 × Int32 × (Nat → Int32) × (Nat → Int32) × (Nat → Int32)) :=
  g_X11_compile_193 a_M_now k26 x1 x3 0 v_M_acts v_M_waits v_M_place a_M_held a_M_wait a_M_act
def g_X11_compile_169 (a_M_now : Nat → Int32) (k26 : Int32 → Int32 → Int32 → Int32 → Int32 → (Nat → Int32) → (Nat → Int32) → (Nat → Int32) → Option (Int32 × Int32 × Int32 × Int32 × (Nat → Int32) × (Nat → Int32) × (Nat → Int32))) (x1 : Int32) (x3 : Int32) (v_M_acts : Int32) (v_M_waits : Int32) (v_M_place : Int32) (a_M_held : Nat → Int32) (a_M_wait : Nat → Int32) (a_M_act : Nat → Int32) : Option (Int32 × Int32 × Int32 × Int32 × (Nat → Int32) × (Nat → Int32) × (Nat → Int32)) :=
  if x3 < 0 then (
    g_X11_compile_185 a_M_now k26 x1 x3 v_M_acts v_M_waits v_M_place a_M_held a_M_wait a_M_act
  ) else (
    if x3 = 40 then (
      g_X11_compile_185 a_M_now k26 x1 x3 v_M_acts v_M_waits v_M_place a_M_held a_M_wait a_M_act
    ) else (
      if x3 = 41 then (
        g_X11_compile_185 a_M_now k26 x1 x3 v_M_acts v_M_waits v_M_place a_M_held a_M_wait a_M_act
      ) else (
        (g_X11_holds x3).bind fun v11 =>
        g_X11_compile_193 a_M_now k26 x1 x3 v11 v_M_acts v_M_waits v_M_place a_M_held a_M_wait a_M_act
      )
    )
  )
def g_X11_compile_122 (a_M_now : Nat → Int32) (k26 : Int32 → Int32 → Int32 → Int32 → Int32 → (Nat → Int32) → (Nat → Int32) → (Nat → Int32) → Option (Int32 × Int32 × Int32 × Int32 × (Nat → Int32) × (Nat → Int32) × (Nat → Int32))) (x1 : Int32) (x2 : Int32) (x3 : Int32) (v_M_acts : Int32) (v_M_waits : Int32) (v_M_place : Int32) (a_M_held : Nat → Int32) (a_M_wait : Nat → Int32) (a_M_act : Nat → Int32) : Option (Int32 × Int32 × Int32 × Int32 × (Nat → Int32) × (Nat → Int32) × (Nat → Int32)) :=
  if x3 = 41 then (
    if x1 ≤ 0 then (
      g_X11_compile_169 a_M_now k26 x1 x3 v_M_acts v_M_waits v_M_place a_M_held a_M_wait a_M_act
    ) else (
      (g_X11_does a_M_wait 1 v_M_acts v_M_waits a_M_act).bind fun v13 =>
      (g_X11_does a_M_wait 6 v13.1 (v13.2.1 - 1) v13.2.2).bind fun v15 =>
      k26 (x1 + (-1)) x2 v15.1 v15.2.1 (v_M_place + 1) a_M_held a_M_wait v15.2.2
    )
  ) else (
    g_X11_compile_169 a_M_now k26 x1 x3 v_M_acts v_M_waits v_M_place a_M_held a_M_wait a_M_act
  )
def g_X11_compile_85 (a_M_now : Nat → Int32) (k26 : Int32 → Int32 → Int32 → Int32 → Int32 → (Nat → Int32) → (Nat → Int32) → (Nat → Int32) → Option (Int32 × Int32 × Int32 × Int32 × (Nat → Int32) × (Nat → Int32) × (Nat → Int32))) (x1 : Int32) (x2 : Int32) (x3 : Int32) (v_M_acts : Int32) (v_M_waits : Int32) (v_M_place : Int32) (a_M_held : Nat → Int32) (a_M_wait : Nat → Int32) (a_M_act : Nat → Int32) : Option (Int32 × Int32 × Int32 × Int32 × (Nat → Int32) × (Nat → Int32) × (Nat → Int32)) :=
  if x3 = 1 then (
    (g_X11_does a_M_wait 6 v_M_acts v_M_waits a_M_act).bind fun v21 =>
    k26 x1 0 v21.1 v21.2.1 v_M_place a_M_held a_M_wait v21.2.2
  ) else (
    k26 x1 x2 v_M_acts v_M_waits v_M_place a_M_held a_M_wait a_M_act
  )
def g_X11_compile_55 (a_M_now : Nat → Int32) (k26 : Int32 → Int32 → Int32 → Int32 → Int32 → (Nat → Int32) → (Nat → Int32) → (Nat → Int32) → Option (Int32 × Int32 × Int32 × Int32 × (Nat → Int32) × (Nat → Int32) × (Nat → Int32))) (x1 : Int32) (x2 : Int32) (x3 : Int32) (v_M_acts : Int32) (v_M_waits : Int32) (v_M_place : Int32) (a_M_held : Nat → Int32) (a_M_wait : Nat → Int32) (a_M_act : Nat → Int32) : Option (Int32 × Int32 × Int32 × Int32 × (Nat → Int32) × (Nat → Int32) × (Nat → Int32)) :=
  if x3 = 0 then (
    if (v_M_waits - 1) < 0 ∨ 80 ≤ (v_M_waits - 1).toNatClampNeg then none else
    if (a_M_wait ((v_M_waits - 1).toNatClampNeg)) = 40 then (
      if (x1 + 1) < 0 ∨ 9 ≤ (x1 + 1).toNatClampNeg then none else
      g_X11_compile_85 a_M_now k26 (x1 + 1) x2 x3 v_M_acts v_M_waits v_M_place (upd a_M_held ((x1 + 1).toNatClampNeg) 0) a_M_wait a_M_act
    ) else (
      g_X11_compile_85 a_M_now k26 x1 x2 x3 v_M_acts v_M_waits v_M_place a_M_held a_M_wait a_M_act
    )
  ) else (
    g_X11_compile_85 a_M_now k26 x1 x2 x3 v_M_acts v_M_waits v_M_place a_M_held a_M_wait a_M_act
  )
def g_X11_compile_26b (a_M_now : Nat → Int32) (k26 : Int32 → Int32 → Int32 → Int32 → Int32 → (Nat → Int32) → (Nat → Int32) → (Nat → Int32) → Option (Int32 × Int32 × Int32 × Int32 × (Nat → Int32) × (Nat → Int32) × (Nat → Int32))) (x1 : Int32) (x2 : Int32) (v_M_acts : Int32) (v_M_waits : Int32) (v_M_place : Int32) (a_M_held : Nat → Int32) (a_M_wait : Nat → Int32) (a_M_act : Nat → Int32) : Option (Int32 × Int32 × Int32 × Int32 × (Nat → Int32) × (Nat → Int32) × (Nat → Int32)) :=
  if x2 = 0 then (
    (g_X11_here a_M_now v_M_place).bind fun v1 =>
    if v1.1 = (-1) then (
      if x1 = 0 then (
        (g_X11_does a_M_wait 1 v_M_acts v_M_waits a_M_act).bind fun v17 =>
        some ((-1), v17.1, v17.2.1, v1.2, a_M_held, a_M_wait, v17.2.2)
      ) else (
        g_X11_compile_122 a_M_now k26 x1 x2 v1.1 v_M_acts v_M_waits v1.2 a_M_held a_M_wait a_M_act
      )
    ) else (
      g_X11_compile_122 a_M_now k26 x1 x2 v1.1 v_M_acts v_M_waits v1.2 a_M_held a_M_wait a_M_act
    )
  ) else (
    (g_X11_takesUnit a_M_now x1 v_M_acts v_M_waits v_M_place a_M_wait a_M_act).bind fun v19 =>
    if 1 < v19.1 then (
      some (v19.1, v19.2.1, v19.2.2.1, v19.2.2.2.1, a_M_held, v19.2.2.2.2.1, v19.2.2.2.2.2)
    ) else (
      if v19.1 = 1 then (
        if v19.2.1 = 0 then (
          some (v19.1, v19.2.1, v19.2.2.1, v19.2.2.2.1, a_M_held, v19.2.2.2.2.1, v19.2.2.2.2.2)
        ) else (
          g_X11_compile_55 a_M_now k26 x1 x2 v19.1 v19.2.1 v19.2.2.1 v19.2.2.2.1 a_M_held v19.2.2.2.2.1 v19.2.2.2.2.2
        )
      ) else (
        g_X11_compile_55 a_M_now k26 x1 x2 v19.1 v19.2.1 v19.2.2.1 v19.2.2.2.1 a_M_held v19.2.2.2.2.1 v19.2.2.2.2.2
      )
    )
  )
def g_X11_compile_26 (a_M_now : Nat → Int32) : Nat → Int32 → Int32 → Int32 → Int32 → Int32 → (Nat → Int32) → (Nat → Int32) → (Nat → Int32) → Option (Int32 × Int32 × Int32 × Int32 × (Nat → Int32) × (Nat → Int32) × (Nat → Int32))
  | 0, _, _, _, _, _, _, _, _ => none
  | n + 1, x1, x2, v_M_acts, v_M_waits, v_M_place, a_M_held, a_M_wait, a_M_act => g_X11_compile_26b a_M_now (g_X11_compile_26 a_M_now n) x1 x2 v_M_acts v_M_waits v_M_place a_M_held a_M_wait a_M_act
def g_X11_compile (a_M_now : Nat → Int32) (v_M_acts : Int32) (v_M_waits : Int32) (v_M_place : Int32) (a_M_held : Nat → Int32) (a_M_wait : Nat → Int32) (a_M_act : Nat → Int32) : Option (Int32 × Int32 × Int32 × Int32 × (Nat → Int32) × (Nat → Int32) × (Nat → Int32)) :=
  g_X11_compile_26 a_M_now zF 0 1 0 0 0 (upd a_M_held 0 0) a_M_wait a_M_act
theorem hd_X11_compile : yX11_compile.cls = RX11 ∧ yX11_compile.cls ≠ "java/lang/invoke/MethodHandle" ∧ yX11_compile.cls ≠ "java/lang/invoke/VarHandle" ∧ (parseMethodDescriptor yX11_compile.desc).map (fun d => d.parameters.length) = some 0 := by decide +kernel
set_option maxHeartbeats 4000000 in
set_option maxRecDepth 100000 in
theorem c_X11_compile (l : Launch) (D : va_G) (cI cJ cZ cA : ClassId) (ga : Nat → Nat) (q_M q_M_held q_M_now q_M_wait q_M_act : Nat) (u_M_images : Value) (u_M_kept : Value) (u_M_text : Value) (u_M_size : Value) (u_M_sign : Value) (u_M_manyAbove : Value) (u_M_manyBelow : Value) (u_M_above : Value) (u_M_below : Value) (u_M_refused : Value) (u_M_at : Value) (u_M_begin : Value) (u_M_kind : Value) (u_M_value : Value) (u_M_read : Value) (u_M_heap : Value) (u_M_clocks : Value) (u_M_counts : Value) (u_M_talking : Value) (u_M_most : Value) (u_M_hasA : Value) (u_M_hasB : Value) (u_M_talks : Value) (u_M_big : Value) (v_M_acts : Int32) (v_M_waits : Int32) (v_M_place : Int32) (a_M_held : Nat → Int32) (a_M_now : Nat → Int32) (a_M_wait : Nat → Int32) (a_M_act : Nat → Int32) (o : Int32 × Int32 × Int32 × Int32 × (Nat → Int32) × (Nat → Int32) × (Nat → Int32)) (hg : g_X11_compile a_M_now v_M_acts v_M_waits v_M_place a_M_held a_M_wait a_M_act = some o) : zM l yX11_compile (Cond.code yX11_compile cX11_compile 5 (some .int) :: wsL_law) rm_X11_compile D (zTy cI cJ cZ cA) ga [.ref q_M] (ws_X11_compile cI cJ cZ cA q_M q_M_held q_M_now q_M_wait q_M_act u_M_images u_M_kept u_M_text u_M_size u_M_sign u_M_manyAbove u_M_manyBelow u_M_above u_M_below u_M_refused u_M_at u_M_begin u_M_kind u_M_value u_M_read u_M_heap u_M_clocks u_M_counts u_M_talking u_M_most u_M_hasA u_M_hasB u_M_talks u_M_big v_M_acts v_M_waits v_M_place a_M_held a_M_now a_M_wait a_M_act) (ws_X11_compile cI cJ cZ cA q_M q_M_held q_M_now q_M_wait q_M_act u_M_images u_M_kept u_M_text u_M_size u_M_sign u_M_manyAbove u_M_manyBelow u_M_above u_M_below u_M_refused u_M_at u_M_begin u_M_kind u_M_value u_M_read u_M_heap u_M_clocks u_M_counts u_M_talking u_M_most u_M_hasA u_M_hasB u_M_talks u_M_big o.2.1 o.2.2.1 o.2.2.2.1 o.2.2.2.2.1 a_M_now o.2.2.2.2.2.1 o.2.2.2.2.2.2) (some (.int o.1)) := by
  refine zenterI (own := RX11) (by decide) rfl rfl (Nat.le_of_ble_eq_true rfl) ?_
  intro p e s m args below meth c A ls Q S hA hK hG hl hP hD hS hret0
  have hx := S.1
  have hb := S.2.1
  have ht : ∀ w, w ∈ wsL_law → w.before args s = true := fun w h => S.2.2.2.2 w (List.mem_cons_of_mem _ h)
  have hret : ∀ (r9 : Int32) (v_M_acts : Int32) (v_M_waits : Int32) (v_M_place : Int32) (a_M_held : Nat → Int32) (a_M_wait : Nat → Int32) (a_M_act : Nat → Int32), (some (r9, v_M_acts, v_M_waits, v_M_place, a_M_held, a_M_wait, a_M_act) : Option (Int32 × Int32 × Int32 × Int32 × (Nat → Int32) × (Nat → Int32) × (Nat → Int32))) = some o → ∀ (H : Heap) (locs : List Loc) (pc : Nat) (ls : Array Slot), va_P D vwCl (ws_X11_compile cI cJ cZ cA q_M q_M_held q_M_now q_M_wait q_M_act u_M_images u_M_kept u_M_text u_M_size u_M_sign u_M_manyAbove u_M_manyBelow u_M_above u_M_below u_M_refused u_M_at u_M_begin u_M_kind u_M_value u_M_read u_M_heap u_M_clocks u_M_counts u_M_talking u_M_most u_M_hasA u_M_hasB u_M_talks u_M_big v_M_acts v_M_waits v_M_place a_M_held a_M_now a_M_wait a_M_act) H → va_S A s.heap H locs → decode cX11_compile pc = .ok (.ireturn, 1) → W p l e rm_X11_compile s m args below meth c H locs 0 0 Q (F0 m pc ls [.int r9]) := by
    intro r9 v_M_acts v_M_waits v_M_place a_M_held a_M_wait a_M_act he; cases he; exact hret0
  have hl : lv_has ls 5 [(0, .ref q_M)] := hl
  have B223 : ∀ (v_M_acts : Int32) (v_M_waits : Int32) (v_M_place : Int32) (a_M_held : Nat → Int32) (a_M_wait : Nat → Int32) (a_M_act : Nat → Int32) (H : Heap) (locs : List Loc) (ls : Array Slot) (hl : lv_has ls 5 [(0, .ref q_M)]) (hP : va_P D vwCl (ws_X11_compile cI cJ cZ cA q_M q_M_held q_M_now q_M_wait q_M_act u_M_images u_M_kept u_M_text u_M_size u_M_sign u_M_manyAbove u_M_manyBelow u_M_above u_M_below u_M_refused u_M_at u_M_begin u_M_kind u_M_value u_M_read u_M_heap u_M_clocks u_M_counts u_M_talking u_M_most u_M_hasA u_M_hasB u_M_talks u_M_big v_M_acts v_M_waits v_M_place a_M_held a_M_now a_M_wait a_M_act) H) (hD : va_D A (ws_X11_compile cI cJ cZ cA q_M q_M_held q_M_now q_M_wait q_M_act u_M_images u_M_kept u_M_text u_M_size u_M_sign u_M_manyAbove u_M_manyBelow u_M_above u_M_below u_M_refused u_M_at u_M_begin u_M_kind u_M_value u_M_read u_M_heap u_M_clocks u_M_counts u_M_talking u_M_most u_M_hasA u_M_hasB u_M_talks u_M_big v_M_acts v_M_waits v_M_place a_M_held a_M_now a_M_wait a_M_act)) (hS : va_S A s.heap H locs), g_X11_compile_223 a_M_now v_M_acts v_M_waits v_M_place a_M_held a_M_wait a_M_act = some o → W p l e rm_X11_compile s m args below meth c H locs 0 0 Q (F0 m 223 ls []) := by
    intro  v_M_acts v_M_waits v_M_place a_M_held a_M_wait a_M_act H locs ls hl hP hD hS hg
    refine lv_bipush (v := 10) hx hb dX11_compile_223 (by decide) ?_
    refine lv_aload_n hx hb dX11_compile_225 rfl (lv_at hl 0 rfl) ?_
    refine zget (C := RX11) (T := TX11) (N := 31) S hK hP 0 rfl rfl 21 (Nat.le_of_ble_eq_true rfl) zf_11 zw_597 rfl dX11_compile_226 ?_
    refine lv_imul hx hb dX11_compile_229 ?_
    refine lv_iconst (v := 1) hx hb dX11_compile_230 (by decide) ?_
    refine lv_iadd hx hb dX11_compile_231 ?_
    exact hret ((10 * v_M_place) + 1) v_M_acts v_M_waits v_M_place a_M_held a_M_wait a_M_act hg _ _ _ _ hP hS dX11_compile_232
  have B264 : ∀ (k26 : Int32 → Int32 → Int32 → Int32 → Int32 → (Nat → Int32) → (Nat → Int32) → (Nat → Int32) → Option (Int32 × Int32 × Int32 × Int32 × (Nat → Int32) × (Nat → Int32) × (Nat → Int32))) (hk26 : ∀ (x1 : Int32) (x2 : Int32) (v_M_acts : Int32) (v_M_waits : Int32) (v_M_place : Int32) (a_M_held : Nat → Int32) (a_M_wait : Nat → Int32) (a_M_act : Nat → Int32) (H : Heap) (locs : List Loc) (ls : Array Slot) (hl : lv_has ls 5 [(0, .ref q_M), (1, .int x1), (2, .int x2)]) (hP : va_P D vwCl (ws_X11_compile cI cJ cZ cA q_M q_M_held q_M_now q_M_wait q_M_act u_M_images u_M_kept u_M_text u_M_size u_M_sign u_M_manyAbove u_M_manyBelow u_M_above u_M_below u_M_refused u_M_at u_M_begin u_M_kind u_M_value u_M_read u_M_heap u_M_clocks u_M_counts u_M_talking u_M_most u_M_hasA u_M_hasB u_M_talks u_M_big v_M_acts v_M_waits v_M_place a_M_held a_M_now a_M_wait a_M_act) H) (hD : va_D A (ws_X11_compile cI cJ cZ cA q_M q_M_held q_M_now q_M_wait q_M_act u_M_images u_M_kept u_M_text u_M_size u_M_sign u_M_manyAbove u_M_manyBelow u_M_above u_M_below u_M_refused u_M_at u_M_begin u_M_kind u_M_value u_M_read u_M_heap u_M_clocks u_M_counts u_M_talking u_M_most u_M_hasA u_M_hasB u_M_talks u_M_big v_M_acts v_M_waits v_M_place a_M_held a_M_now a_M_wait a_M_act)) (hS : va_S A s.heap H locs), k26 x1 x2 v_M_acts v_M_waits v_M_place a_M_held a_M_wait a_M_act = some o → W p l e rm_X11_compile s m args below meth c H locs 0 0 Q (F0 m 26 ls [])) (x1 : Int32) (x3 : Int32) (x4 : Int32) (t1 : Int32) (t2 : Int32) (v_M_acts : Int32) (v_M_waits : Int32) (v_M_place : Int32) (a_M_held : Nat → Int32) (a_M_wait : Nat → Int32) (a_M_act : Nat → Int32) (H : Heap) (locs : List Loc) (ls : Array Slot) (hl : lv_has ls 5 [(0, .ref q_M), (1, .int x1), (3, .int x3), (4, .int x4)]) (hP : va_P D vwCl (ws_X11_compile cI cJ cZ cA q_M q_M_held q_M_now q_M_wait q_M_act u_M_images u_M_kept u_M_text u_M_size u_M_sign u_M_manyAbove u_M_manyBelow u_M_above u_M_below u_M_refused u_M_at u_M_begin u_M_kind u_M_value u_M_read u_M_heap u_M_clocks u_M_counts u_M_talking u_M_most u_M_hasA u_M_hasB u_M_talks u_M_big v_M_acts v_M_waits v_M_place a_M_held a_M_now a_M_wait a_M_act) H) (hD : va_D A (ws_X11_compile cI cJ cZ cA q_M q_M_held q_M_now q_M_wait q_M_act u_M_images u_M_kept u_M_text u_M_size u_M_sign u_M_manyAbove u_M_manyBelow u_M_above u_M_below u_M_refused u_M_at u_M_begin u_M_kind u_M_value u_M_read u_M_heap u_M_clocks u_M_counts u_M_talking u_M_most u_M_hasA u_M_hasB u_M_talks u_M_big v_M_acts v_M_waits v_M_place a_M_held a_M_now a_M_wait a_M_act)) (hS : va_S A s.heap H locs), g_X11_compile_264 a_M_now k26 x1 x3 x4 t1 t2 v_M_acts v_M_waits v_M_place a_M_held a_M_wait a_M_act = some o → W p l e rm_X11_compile s m args below meth c H locs 0 0 Q (F0 m 264 ls [.int t2, .int t1, .ref q_M_held]) := by
    intro k26 hk26 x1 x3 x4 t1 t2 v_M_acts v_M_waits v_M_place a_M_held a_M_wait a_M_act H locs ls hl hP hD hS hg
    obtain ⟨h5, hg⟩ := zck hg
    refine zzast hx hb hK hP hD hS 1 2 rfl rfl (j := (t1.toNatClampNeg)) (y := (vp_nar .boolean t2)) rfl h5 rfl dX11_compile_264 (w2 := (ws_X11_compile cI cJ cZ cA q_M q_M_held q_M_now q_M_wait q_M_act u_M_images u_M_kept u_M_text u_M_size u_M_sign u_M_manyAbove u_M_manyBelow u_M_above u_M_below u_M_refused u_M_at u_M_begin u_M_kind u_M_value u_M_read u_M_heap u_M_clocks u_M_counts u_M_talking u_M_most u_M_hasA u_M_hasB u_M_talks u_M_big v_M_acts v_M_waits v_M_place (upd a_M_held (t1.toNatClampNeg) (vp_nar .boolean t2)) a_M_now a_M_wait a_M_act)) rfl (fun H locs hP hD hS => ?_)
    refine lv_aload_n hx hb dX11_compile_265 rfl (lv_at hl 0 rfl) ?_
    refine lv_iload hx hb dX11_compile_266 (lv_at hl 3 rfl) ?_
    obtain ⟨v6, hc7, hg⟩ := zbd hg
    refine zcallV (rest := []) S (c_X11_does l D cI cJ cZ cA ga q_M q_M_wait q_M_act (.ref q_M_now) u_M_images u_M_kept u_M_text u_M_size u_M_sign u_M_manyAbove u_M_manyBelow u_M_above u_M_below u_M_refused u_M_at u_M_begin u_M_kind u_M_value u_M_read (.ref q_M_held) (.int v_M_place) u_M_heap u_M_clocks u_M_counts u_M_talking u_M_most u_M_hasA u_M_hasB u_M_talks u_M_big v_M_acts v_M_waits a_M_wait a_M_act x4 v6 hc7) (zgV zw_609 zw_610 zw_611 zw_5 zw_612) rfl hd_X11_does ⟨rfl, rfl⟩ ⟨Nat.le_of_ble_eq_true rfl, Nat.le_of_ble_eq_true rfl⟩ 0 11 rfl rfl rfl hl.1 rfl (Nat.le_of_ble_eq_true rfl) dX11_compile_268 hP hD hS hA hK hG (isC := [0, 3, 4]) rfl (by decide +kernel) rfl ⟨Nat.zero_le _, Nat.zero_le _⟩ (pl := [some 0, none, none, some 1, some 2]) (nw := 5) rfl (by decide +kernel) (w2 := (ws_X11_compile cI cJ cZ cA q_M q_M_held q_M_now q_M_wait q_M_act u_M_images u_M_kept u_M_text u_M_size u_M_sign u_M_manyAbove u_M_manyBelow u_M_above u_M_below u_M_refused u_M_at u_M_begin u_M_kind u_M_value u_M_read u_M_heap u_M_clocks u_M_counts u_M_talking u_M_most u_M_hasA u_M_hasB u_M_talks u_M_big v6.1 v6.2.1 v_M_place (upd a_M_held (t1.toNatClampNeg) (vp_nar .boolean t2)) a_M_now a_M_wait v6.2.2)) rfl (st1 := []) rfl (fun H locs hP hD hS => ?_)
    refine lv_aload_n hx hb dX11_compile_271 rfl (lv_at hl 0 rfl) ?_
    refine zget (C := RX11) (T := TX11) (N := 31) S hK hP 0 rfl rfl 19 (Nat.le_of_ble_eq_true rfl) zf_11 zw_159 rfl dX11_compile_272 ?_
    refine lv_aload_n hx hb dX11_compile_275 rfl (lv_at hl 0 rfl) ?_
    refine zget (C := RX11) (T := TX11) (N := 31) S hK hP 0 rfl rfl 18 (Nat.le_of_ble_eq_true rfl) zf_11 zw_596 rfl dX11_compile_276 ?_
    refine lv_iload_n hx hb dX11_compile_279 rfl (lv_at hl 2 rfl) ?_
    obtain ⟨h8, hg⟩ := zck hg
    refine ziast hx hb hK hP hD hS 3 0 rfl rfl (j := (v6.2.1.toNatClampNeg)) h8 rfl dX11_compile_280 (w2 := (ws_X11_compile cI cJ cZ cA q_M q_M_held q_M_now q_M_wait q_M_act u_M_images u_M_kept u_M_text u_M_size u_M_sign u_M_manyAbove u_M_manyBelow u_M_above u_M_below u_M_refused u_M_at u_M_begin u_M_kind u_M_value u_M_read u_M_heap u_M_clocks u_M_counts u_M_talking u_M_most u_M_hasA u_M_hasB u_M_talks u_M_big v6.1 v6.2.1 v_M_place (upd a_M_held (t1.toNatClampNeg) (vp_nar .boolean t2)) a_M_now (upd a_M_wait (v6.2.1.toNatClampNeg) x3) v6.2.2)) rfl (fun H locs hP hD hS => ?_)
    refine lv_aload_n hx hb dX11_compile_281 rfl (lv_at hl 0 rfl) ?_
    refine lv_dup hx hb dX11_compile_282 rfl ?_
    refine zget (C := RX11) (T := TX11) (N := 31) S hK hP 0 rfl rfl 18 (Nat.le_of_ble_eq_true rfl) zf_11 zw_596 rfl dX11_compile_283 ?_
    refine lv_iconst (v := 1) hx hb dX11_compile_286 (by decide) ?_
    refine lv_iadd hx hb dX11_compile_287 ?_
    refine zputf (C := RX11) (T := TX11) (N := 31) (ty := .int) S hK hP hD hS 0 rfl rfl 18 (Nat.le_of_ble_eq_true rfl) zf_11 tyX11 tyX11_ok nmX11 zw_596 rfl (by decide +kernel) rfl rfl (Nat.le_of_ble_eq_true rfl) dX11_compile_288 (w2 := (ws_X11_compile cI cJ cZ cA q_M q_M_held q_M_now q_M_wait q_M_act u_M_images u_M_kept u_M_text u_M_size u_M_sign u_M_manyAbove u_M_manyBelow u_M_above u_M_below u_M_refused u_M_at u_M_begin u_M_kind u_M_value u_M_read u_M_heap u_M_clocks u_M_counts u_M_talking u_M_most u_M_hasA u_M_hasB u_M_talks u_M_big v6.1 (v6.2.1 + 1) v_M_place (upd a_M_held (t1.toNatClampNeg) (vp_nar .boolean t2)) a_M_now (upd a_M_wait (v6.2.1.toNatClampNeg) x3) v6.2.2)) rfl (fun H locs hP hD hS => ?_)
    refine lv_aload_n hx hb dX11_compile_291 rfl (lv_at hl 0 rfl) ?_
    refine lv_dup hx hb dX11_compile_292 rfl ?_
    refine zget (C := RX11) (T := TX11) (N := 31) S hK hP 0 rfl rfl 21 (Nat.le_of_ble_eq_true rfl) zf_11 zw_597 rfl dX11_compile_293 ?_
    refine lv_iconst (v := 1) hx hb dX11_compile_296 (by decide) ?_
    refine lv_iadd hx hb dX11_compile_297 ?_
    refine zputf (C := RX11) (T := TX11) (N := 31) (ty := .int) S hK hP hD hS 0 rfl rfl 21 (Nat.le_of_ble_eq_true rfl) zf_11 tyX11 tyX11_ok nmX11 zw_597 rfl (by decide +kernel) rfl rfl (Nat.le_of_ble_eq_true rfl) dX11_compile_298 (w2 := (ws_X11_compile cI cJ cZ cA q_M q_M_held q_M_now q_M_wait q_M_act u_M_images u_M_kept u_M_text u_M_size u_M_sign u_M_manyAbove u_M_manyBelow u_M_above u_M_below u_M_refused u_M_at u_M_begin u_M_kind u_M_value u_M_read u_M_heap u_M_clocks u_M_counts u_M_talking u_M_most u_M_hasA u_M_hasB u_M_talks u_M_big v6.1 (v6.2.1 + 1) (v_M_place + 1) (upd a_M_held (t1.toNatClampNeg) (vp_nar .boolean t2)) a_M_now (upd a_M_wait (v6.2.1.toNatClampNeg) x3) v6.2.2)) rfl (fun H locs hP hD hS => ?_)
    refine lv_iconst (v := 1) hx hb dX11_compile_301 (by decide) ?_
    refine lv_istore_n (lv' := [(2, .int 1), (0, .ref q_M), (1, .int x1), (3, .int x3), (4, .int x4)]) hx hb dX11_compile_302 rfl hl (by decide) rfl (fun ls hl => ?_)
    refine lv_goto (tgt := 26) hx hb dX11_compile_303 (by decide) ?_
    exact hk26 x1 1 v6.1 (v6.2.1 + 1) (v_M_place + 1) (upd a_M_held (t1.toNatClampNeg) (vp_nar .boolean t2)) (upd a_M_wait (v6.2.1.toNatClampNeg) x3) v6.2.2 _ _ _ (lv_sub hl [1, 2, 0] rfl) hP hD hS hg
  have B259 : ∀ (k26 : Int32 → Int32 → Int32 → Int32 → Int32 → (Nat → Int32) → (Nat → Int32) → (Nat → Int32) → Option (Int32 × Int32 × Int32 × Int32 × (Nat → Int32) × (Nat → Int32) × (Nat → Int32))) (hk26 : ∀ (x1 : Int32) (x2 : Int32) (v_M_acts : Int32) (v_M_waits : Int32) (v_M_place : Int32) (a_M_held : Nat → Int32) (a_M_wait : Nat → Int32) (a_M_act : Nat → Int32) (H : Heap) (locs : List Loc) (ls : Array Slot) (hl : lv_has ls 5 [(0, .ref q_M), (1, .int x1), (2, .int x2)]) (hP : va_P D vwCl (ws_X11_compile cI cJ cZ cA q_M q_M_held q_M_now q_M_wait q_M_act u_M_images u_M_kept u_M_text u_M_size u_M_sign u_M_manyAbove u_M_manyBelow u_M_above u_M_below u_M_refused u_M_at u_M_begin u_M_kind u_M_value u_M_read u_M_heap u_M_clocks u_M_counts u_M_talking u_M_most u_M_hasA u_M_hasB u_M_talks u_M_big v_M_acts v_M_waits v_M_place a_M_held a_M_now a_M_wait a_M_act) H) (hD : va_D A (ws_X11_compile cI cJ cZ cA q_M q_M_held q_M_now q_M_wait q_M_act u_M_images u_M_kept u_M_text u_M_size u_M_sign u_M_manyAbove u_M_manyBelow u_M_above u_M_below u_M_refused u_M_at u_M_begin u_M_kind u_M_value u_M_read u_M_heap u_M_clocks u_M_counts u_M_talking u_M_most u_M_hasA u_M_hasB u_M_talks u_M_big v_M_acts v_M_waits v_M_place a_M_held a_M_now a_M_wait a_M_act)) (hS : va_S A s.heap H locs), k26 x1 x2 v_M_acts v_M_waits v_M_place a_M_held a_M_wait a_M_act = some o → W p l e rm_X11_compile s m args below meth c H locs 0 0 Q (F0 m 26 ls [])) (x1 : Int32) (x3 : Int32) (x4 : Int32) (t1 : Int32) (v_M_acts : Int32) (v_M_waits : Int32) (v_M_place : Int32) (a_M_held : Nat → Int32) (a_M_wait : Nat → Int32) (a_M_act : Nat → Int32) (H : Heap) (locs : List Loc) (ls : Array Slot) (hl : lv_has ls 5 [(0, .ref q_M), (1, .int x1), (3, .int x3), (4, .int x4)]) (hP : va_P D vwCl (ws_X11_compile cI cJ cZ cA q_M q_M_held q_M_now q_M_wait q_M_act u_M_images u_M_kept u_M_text u_M_size u_M_sign u_M_manyAbove u_M_manyBelow u_M_above u_M_below u_M_refused u_M_at u_M_begin u_M_kind u_M_value u_M_read u_M_heap u_M_clocks u_M_counts u_M_talking u_M_most u_M_hasA u_M_hasB u_M_talks u_M_big v_M_acts v_M_waits v_M_place a_M_held a_M_now a_M_wait a_M_act) H) (hD : va_D A (ws_X11_compile cI cJ cZ cA q_M q_M_held q_M_now q_M_wait q_M_act u_M_images u_M_kept u_M_text u_M_size u_M_sign u_M_manyAbove u_M_manyBelow u_M_above u_M_below u_M_refused u_M_at u_M_begin u_M_kind u_M_value u_M_read u_M_heap u_M_clocks u_M_counts u_M_talking u_M_most u_M_hasA u_M_hasB u_M_talks u_M_big v_M_acts v_M_waits v_M_place a_M_held a_M_now a_M_wait a_M_act)) (hS : va_S A s.heap H locs), g_X11_compile_259 a_M_now k26 x1 x3 x4 t1 v_M_acts v_M_waits v_M_place a_M_held a_M_wait a_M_act = some o → W p l e rm_X11_compile s m args below meth c H locs 0 0 Q (F0 m 259 ls [.int t1, .ref q_M_held]) := by
    intro k26 hk26 x1 x3 x4 t1 v_M_acts v_M_waits v_M_place a_M_held a_M_wait a_M_act H locs ls hl hP hD hS hg
    refine lv_iconst (v := 1) hx hb dX11_compile_259 (by decide) ?_
    refine lv_goto (tgt := 264) hx hb dX11_compile_260 (by decide) ?_
    exact B264 k26 hk26 x1 x3 x4 t1 1 v_M_acts v_M_waits v_M_place a_M_held a_M_wait a_M_act _ _ _ hl hP hD hS hg
  have B263 : ∀ (k26 : Int32 → Int32 → Int32 → Int32 → Int32 → (Nat → Int32) → (Nat → Int32) → (Nat → Int32) → Option (Int32 × Int32 × Int32 × Int32 × (Nat → Int32) × (Nat → Int32) × (Nat → Int32))) (hk26 : ∀ (x1 : Int32) (x2 : Int32) (v_M_acts : Int32) (v_M_waits : Int32) (v_M_place : Int32) (a_M_held : Nat → Int32) (a_M_wait : Nat → Int32) (a_M_act : Nat → Int32) (H : Heap) (locs : List Loc) (ls : Array Slot) (hl : lv_has ls 5 [(0, .ref q_M), (1, .int x1), (2, .int x2)]) (hP : va_P D vwCl (ws_X11_compile cI cJ cZ cA q_M q_M_held q_M_now q_M_wait q_M_act u_M_images u_M_kept u_M_text u_M_size u_M_sign u_M_manyAbove u_M_manyBelow u_M_above u_M_below u_M_refused u_M_at u_M_begin u_M_kind u_M_value u_M_read u_M_heap u_M_clocks u_M_counts u_M_talking u_M_most u_M_hasA u_M_hasB u_M_talks u_M_big v_M_acts v_M_waits v_M_place a_M_held a_M_now a_M_wait a_M_act) H) (hD : va_D A (ws_X11_compile cI cJ cZ cA q_M q_M_held q_M_now q_M_wait q_M_act u_M_images u_M_kept u_M_text u_M_size u_M_sign u_M_manyAbove u_M_manyBelow u_M_above u_M_below u_M_refused u_M_at u_M_begin u_M_kind u_M_value u_M_read u_M_heap u_M_clocks u_M_counts u_M_talking u_M_most u_M_hasA u_M_hasB u_M_talks u_M_big v_M_acts v_M_waits v_M_place a_M_held a_M_now a_M_wait a_M_act)) (hS : va_S A s.heap H locs), k26 x1 x2 v_M_acts v_M_waits v_M_place a_M_held a_M_wait a_M_act = some o → W p l e rm_X11_compile s m args below meth c H locs 0 0 Q (F0 m 26 ls [])) (x1 : Int32) (x3 : Int32) (x4 : Int32) (t1 : Int32) (v_M_acts : Int32) (v_M_waits : Int32) (v_M_place : Int32) (a_M_held : Nat → Int32) (a_M_wait : Nat → Int32) (a_M_act : Nat → Int32) (H : Heap) (locs : List Loc) (ls : Array Slot) (hl : lv_has ls 5 [(0, .ref q_M), (1, .int x1), (3, .int x3), (4, .int x4)]) (hP : va_P D vwCl (ws_X11_compile cI cJ cZ cA q_M q_M_held q_M_now q_M_wait q_M_act u_M_images u_M_kept u_M_text u_M_size u_M_sign u_M_manyAbove u_M_manyBelow u_M_above u_M_below u_M_refused u_M_at u_M_begin u_M_kind u_M_value u_M_read u_M_heap u_M_clocks u_M_counts u_M_talking u_M_most u_M_hasA u_M_hasB u_M_talks u_M_big v_M_acts v_M_waits v_M_place a_M_held a_M_now a_M_wait a_M_act) H) (hD : va_D A (ws_X11_compile cI cJ cZ cA q_M q_M_held q_M_now q_M_wait q_M_act u_M_images u_M_kept u_M_text u_M_size u_M_sign u_M_manyAbove u_M_manyBelow u_M_above u_M_below u_M_refused u_M_at u_M_begin u_M_kind u_M_value u_M_read u_M_heap u_M_clocks u_M_counts u_M_talking u_M_most u_M_hasA u_M_hasB u_M_talks u_M_big v_M_acts v_M_waits v_M_place a_M_held a_M_now a_M_wait a_M_act)) (hS : va_S A s.heap H locs), g_X11_compile_263 a_M_now k26 x1 x3 x4 t1 v_M_acts v_M_waits v_M_place a_M_held a_M_wait a_M_act = some o → W p l e rm_X11_compile s m args below meth c H locs 0 0 Q (F0 m 263 ls [.int t1, .ref q_M_held]) := by
    intro k26 hk26 x1 x3 x4 t1 v_M_acts v_M_waits v_M_place a_M_held a_M_wait a_M_act H locs ls hl hP hD hS hg
    refine lv_iconst (v := 0) hx hb dX11_compile_263 (by decide) ?_
    exact B264 k26 hk26 x1 x3 x4 t1 0 v_M_acts v_M_waits v_M_place a_M_held a_M_wait a_M_act _ _ _ hl hP hD hS hg
  have B233 : ∀ (k26 : Int32 → Int32 → Int32 → Int32 → Int32 → (Nat → Int32) → (Nat → Int32) → (Nat → Int32) → Option (Int32 × Int32 × Int32 × Int32 × (Nat → Int32) × (Nat → Int32) × (Nat → Int32))) (hk26 : ∀ (x1 : Int32) (x2 : Int32) (v_M_acts : Int32) (v_M_waits : Int32) (v_M_place : Int32) (a_M_held : Nat → Int32) (a_M_wait : Nat → Int32) (a_M_act : Nat → Int32) (H : Heap) (locs : List Loc) (ls : Array Slot) (hl : lv_has ls 5 [(0, .ref q_M), (1, .int x1), (2, .int x2)]) (hP : va_P D vwCl (ws_X11_compile cI cJ cZ cA q_M q_M_held q_M_now q_M_wait q_M_act u_M_images u_M_kept u_M_text u_M_size u_M_sign u_M_manyAbove u_M_manyBelow u_M_above u_M_below u_M_refused u_M_at u_M_begin u_M_kind u_M_value u_M_read u_M_heap u_M_clocks u_M_counts u_M_talking u_M_most u_M_hasA u_M_hasB u_M_talks u_M_big v_M_acts v_M_waits v_M_place a_M_held a_M_now a_M_wait a_M_act) H) (hD : va_D A (ws_X11_compile cI cJ cZ cA q_M q_M_held q_M_now q_M_wait q_M_act u_M_images u_M_kept u_M_text u_M_size u_M_sign u_M_manyAbove u_M_manyBelow u_M_above u_M_below u_M_refused u_M_at u_M_begin u_M_kind u_M_value u_M_read u_M_heap u_M_clocks u_M_counts u_M_talking u_M_most u_M_hasA u_M_hasB u_M_talks u_M_big v_M_acts v_M_waits v_M_place a_M_held a_M_now a_M_wait a_M_act)) (hS : va_S A s.heap H locs), k26 x1 x2 v_M_acts v_M_waits v_M_place a_M_held a_M_wait a_M_act = some o → W p l e rm_X11_compile s m args below meth c H locs 0 0 Q (F0 m 26 ls [])) (x1 : Int32) (x3 : Int32) (x4 : Int32) (v_M_acts : Int32) (v_M_waits : Int32) (v_M_place : Int32) (a_M_held : Nat → Int32) (a_M_wait : Nat → Int32) (a_M_act : Nat → Int32) (H : Heap) (locs : List Loc) (ls : Array Slot) (hl : lv_has ls 5 [(0, .ref q_M), (1, .int x1), (3, .int x3), (4, .int x4)]) (hP : va_P D vwCl (ws_X11_compile cI cJ cZ cA q_M q_M_held q_M_now q_M_wait q_M_act u_M_images u_M_kept u_M_text u_M_size u_M_sign u_M_manyAbove u_M_manyBelow u_M_above u_M_below u_M_refused u_M_at u_M_begin u_M_kind u_M_value u_M_read u_M_heap u_M_clocks u_M_counts u_M_talking u_M_most u_M_hasA u_M_hasB u_M_talks u_M_big v_M_acts v_M_waits v_M_place a_M_held a_M_now a_M_wait a_M_act) H) (hD : va_D A (ws_X11_compile cI cJ cZ cA q_M q_M_held q_M_now q_M_wait q_M_act u_M_images u_M_kept u_M_text u_M_size u_M_sign u_M_manyAbove u_M_manyBelow u_M_above u_M_below u_M_refused u_M_at u_M_begin u_M_kind u_M_value u_M_read u_M_heap u_M_clocks u_M_counts u_M_talking u_M_most u_M_hasA u_M_hasB u_M_talks u_M_big v_M_acts v_M_waits v_M_place a_M_held a_M_now a_M_wait a_M_act)) (hS : va_S A s.heap H locs), g_X11_compile_233 a_M_now k26 x1 x3 x4 v_M_acts v_M_waits v_M_place a_M_held a_M_wait a_M_act = some o → W p l e rm_X11_compile s m args below meth c H locs 0 0 Q (F0 m 233 ls []) := by
    intro k26 hk26 x1 x3 x4 v_M_acts v_M_waits v_M_place a_M_held a_M_wait a_M_act H locs ls hl hP hD hS hg
    refine lv_aload_n hx hb dX11_compile_233 rfl (lv_at hl 0 rfl) ?_
    refine zget (C := RX11) (T := TX11) (N := 31) S hK hP 0 rfl rfl 20 (Nat.le_of_ble_eq_true rfl) zf_11 zw_160 rfl dX11_compile_234 ?_
    refine lv_iload_n hx hb dX11_compile_237 rfl (lv_at hl 1 rfl) ?_
    refine lv_iload hx hb dX11_compile_238 (lv_at hl 3 rfl) ?_
    refine lv_iconst (v := 3) hx hb dX11_compile_240 (by decide) ?_
    refine lv_icmp_eq (tgt := 259) hx hb dX11_compile_241 (by decide) (fun h241 => ?_) (fun h241 => ?_)
    · have hg := zp hg h241
      exact B259 k26 hk26 x1 x3 x4 x1 v_M_acts v_M_waits v_M_place a_M_held a_M_wait a_M_act _ _ _ hl hP hD hS hg
    · have hg := zn hg h241
      refine lv_iload hx hb dX11_compile_244 (lv_at hl 3 rfl) ?_
      refine lv_iconst (v := 3) hx hb dX11_compile_246 (by decide) ?_
      refine lv_icmp_le (tgt := 263) hx hb dX11_compile_247 (by decide) (fun h247 => ?_) (fun h247 => ?_)
      · have hg := zp hg h247
        exact B263 k26 hk26 x1 x3 x4 x1 v_M_acts v_M_waits v_M_place a_M_held a_M_wait a_M_act _ _ _ hl hP hD hS hg
      · have hg := zn hg h247
        refine lv_aload_n hx hb dX11_compile_250 rfl (lv_at hl 0 rfl) ?_
        refine zget (C := RX11) (T := TX11) (N := 31) S hK hP 0 rfl rfl 20 (Nat.le_of_ble_eq_true rfl) zf_11 zw_160 rfl dX11_compile_251 ?_
        refine lv_iload_n hx hb dX11_compile_254 rfl (lv_at hl 1 rfl) ?_
        obtain ⟨h9, hg⟩ := zck hg
        refine zzald hx hb hK hP 1 2 rfl rfl (j := (x1.toNatClampNeg)) h9 rfl dX11_compile_255 ?_
        refine lv_if_eq (tgt := 263) hx hb dX11_compile_256 (by decide) (fun h256 => ?_) (fun h256 => ?_)
        · have hg := zp hg h256
          exact B263 k26 hk26 x1 x3 x4 x1 v_M_acts v_M_waits v_M_place a_M_held a_M_wait a_M_act _ _ _ hl hP hD hS hg
        · have hg := zn hg h256
          exact B259 k26 hk26 x1 x3 x4 x1 v_M_acts v_M_waits v_M_place a_M_held a_M_wait a_M_act _ _ _ hl hP hD hS hg
  have B193 : ∀ (k26 : Int32 → Int32 → Int32 → Int32 → Int32 → (Nat → Int32) → (Nat → Int32) → (Nat → Int32) → Option (Int32 × Int32 × Int32 × Int32 × (Nat → Int32) × (Nat → Int32) × (Nat → Int32))) (hk26 : ∀ (x1 : Int32) (x2 : Int32) (v_M_acts : Int32) (v_M_waits : Int32) (v_M_place : Int32) (a_M_held : Nat → Int32) (a_M_wait : Nat → Int32) (a_M_act : Nat → Int32) (H : Heap) (locs : List Loc) (ls : Array Slot) (hl : lv_has ls 5 [(0, .ref q_M), (1, .int x1), (2, .int x2)]) (hP : va_P D vwCl (ws_X11_compile cI cJ cZ cA q_M q_M_held q_M_now q_M_wait q_M_act u_M_images u_M_kept u_M_text u_M_size u_M_sign u_M_manyAbove u_M_manyBelow u_M_above u_M_below u_M_refused u_M_at u_M_begin u_M_kind u_M_value u_M_read u_M_heap u_M_clocks u_M_counts u_M_talking u_M_most u_M_hasA u_M_hasB u_M_talks u_M_big v_M_acts v_M_waits v_M_place a_M_held a_M_now a_M_wait a_M_act) H) (hD : va_D A (ws_X11_compile cI cJ cZ cA q_M q_M_held q_M_now q_M_wait q_M_act u_M_images u_M_kept u_M_text u_M_size u_M_sign u_M_manyAbove u_M_manyBelow u_M_above u_M_below u_M_refused u_M_at u_M_begin u_M_kind u_M_value u_M_read u_M_heap u_M_clocks u_M_counts u_M_talking u_M_most u_M_hasA u_M_hasB u_M_talks u_M_big v_M_acts v_M_waits v_M_place a_M_held a_M_now a_M_wait a_M_act)) (hS : va_S A s.heap H locs), k26 x1 x2 v_M_acts v_M_waits v_M_place a_M_held a_M_wait a_M_act = some o → W p l e rm_X11_compile s m args below meth c H locs 0 0 Q (F0 m 26 ls [])) (x1 : Int32) (x3 : Int32) (t0 : Int32) (v_M_acts : Int32) (v_M_waits : Int32) (v_M_place : Int32) (a_M_held : Nat → Int32) (a_M_wait : Nat → Int32) (a_M_act : Nat → Int32) (H : Heap) (locs : List Loc) (ls : Array Slot) (hl : lv_has ls 5 [(0, .ref q_M), (1, .int x1), (3, .int x3)]) (hP : va_P D vwCl (ws_X11_compile cI cJ cZ cA q_M q_M_held q_M_now q_M_wait q_M_act u_M_images u_M_kept u_M_text u_M_size u_M_sign u_M_manyAbove u_M_manyBelow u_M_above u_M_below u_M_refused u_M_at u_M_begin u_M_kind u_M_value u_M_read u_M_heap u_M_clocks u_M_counts u_M_talking u_M_most u_M_hasA u_M_hasB u_M_talks u_M_big v_M_acts v_M_waits v_M_place a_M_held a_M_now a_M_wait a_M_act) H) (hD : va_D A (ws_X11_compile cI cJ cZ cA q_M q_M_held q_M_now q_M_wait q_M_act u_M_images u_M_kept u_M_text u_M_size u_M_sign u_M_manyAbove u_M_manyBelow u_M_above u_M_below u_M_refused u_M_at u_M_begin u_M_kind u_M_value u_M_read u_M_heap u_M_clocks u_M_counts u_M_talking u_M_most u_M_hasA u_M_hasB u_M_talks u_M_big v_M_acts v_M_waits v_M_place a_M_held a_M_now a_M_wait a_M_act)) (hS : va_S A s.heap H locs), g_X11_compile_193 a_M_now k26 x1 x3 t0 v_M_acts v_M_waits v_M_place a_M_held a_M_wait a_M_act = some o → W p l e rm_X11_compile s m args below meth c H locs 0 0 Q (F0 m 193 ls [.int t0]) := by
    intro k26 hk26 x1 x3 t0 v_M_acts v_M_waits v_M_place a_M_held a_M_wait a_M_act H locs ls hl hP hD hS hg
    refine lv_istore (lv' := [(4, .int t0), (0, .ref q_M), (1, .int x1), (3, .int x3)]) hx hb dX11_compile_193 hl (by decide) rfl (fun ls hl => ?_)
    refine lv_iload hx hb dX11_compile_195 (lv_at hl 0 rfl) ?_
    refine lv_i2l hx hb dX11_compile_197 rfl ?_
    refine lv_lconst (v := 1) hx hb dX11_compile_198 (by decide) ?_
    refine lv_ldc2 (v := 5) hx hb S.2.2.2.1 (ht _ zw_253) dX11_compile_199 ?_
    obtain ⟨v3, hc4, hg⟩ := zbd hg
    refine zcallS (rest := []) S (c_X11_in l D cI cJ cZ cA ga t0.toInt64 (1 : Int64) (5 : Int64) v3 hc4) (zgS zw_220 zw_221 zw_5 zw_222) rfl hd_X11_in ⟨rfl, rfl⟩ ⟨Nat.le_of_ble_eq_true rfl, Nat.le_of_ble_eq_true rfl⟩ rfl hl.1 rfl (Nat.le_of_ble_eq_true rfl) dX11_compile_202 hP hD hS hA hK hG (isC := []) rfl (by decide +kernel) rfl ⟨Nat.zero_le _, Nat.zero_le _⟩ (pl := [none, none, none, none, none]) (nw := 5) rfl (by decide +kernel) (w2 := (ws_X11_compile cI cJ cZ cA q_M q_M_held q_M_now q_M_wait q_M_act u_M_images u_M_kept u_M_text u_M_size u_M_sign u_M_manyAbove u_M_manyBelow u_M_above u_M_below u_M_refused u_M_at u_M_begin u_M_kind u_M_value u_M_read u_M_heap u_M_clocks u_M_counts u_M_talking u_M_most u_M_hasA u_M_hasB u_M_talks u_M_big v_M_acts v_M_waits v_M_place a_M_held a_M_now a_M_wait a_M_act)) rfl (st1 := [.int v3]) rfl (fun H locs hP hD hS => ?_)
    refine lv_if_eq (tgt := 223) hx hb dX11_compile_205 (by decide) (fun h205 => ?_) (fun h205 => ?_)
    · have hg := zp hg h205
      exact B223 v_M_acts v_M_waits v_M_place a_M_held a_M_wait a_M_act _ _ _ (lv_sub hl [1] rfl) hP hD hS hg
    · have hg := zn hg h205
      refine lv_iload hx hb dX11_compile_208 (lv_at hl 0 rfl) ?_
      refine lv_iconst (v := 3) hx hb dX11_compile_210 (by decide) ?_
      refine lv_icmp_ne (tgt := 233) hx hb dX11_compile_211 (by decide) (fun h211 => ?_) (fun h211 => ?_)
      · have hg := zn hg h211
        exact B233 k26 hk26 x1 x3 t0 v_M_acts v_M_waits v_M_place a_M_held a_M_wait a_M_act _ _ _ (lv_sub hl [1, 2, 3, 0] rfl) hP hD hS hg
      · have hg := zp hg h211
        refine lv_aload_n hx hb dX11_compile_214 rfl (lv_at hl 1 rfl) ?_
        refine zget (C := RX11) (T := TX11) (N := 31) S hK hP 0 rfl rfl 20 (Nat.le_of_ble_eq_true rfl) zf_11 zw_160 rfl dX11_compile_215 ?_
        refine lv_iload_n hx hb dX11_compile_218 rfl (lv_at hl 2 rfl) ?_
        obtain ⟨h10, hg⟩ := zck hg
        refine zzald hx hb hK hP 1 2 rfl rfl (j := (x1.toNatClampNeg)) h10 rfl dX11_compile_219 ?_
        refine lv_if_eq (tgt := 233) hx hb dX11_compile_220 (by decide) (fun h220 => ?_) (fun h220 => ?_)
        · have hg := zp hg h220
          exact B233 k26 hk26 x1 x3 t0 v_M_acts v_M_waits v_M_place a_M_held a_M_wait a_M_act _ _ _ (lv_sub hl [1, 2, 3, 0] rfl) hP hD hS hg
        · have hg := zn hg h220
          exact B223 v_M_acts v_M_waits v_M_place a_M_held a_M_wait a_M_act _ _ _ (lv_sub hl [1] rfl) hP hD hS hg
  have B185 : ∀ (k26 : Int32 → Int32 → Int32 → Int32 → Int32 → (Nat → Int32) → (Nat → Int32) → (Nat → Int32) → Option (Int32 × Int32 × Int32 × Int32 × (Nat → Int32) × (Nat → Int32) × (Nat → Int32))) (hk26 : ∀ (x1 : Int32) (x2 : Int32) (v_M_acts : Int32) (v_M_waits : Int32) (v_M_place : Int32) (a_M_held : Nat → Int32) (a_M_wait : Nat → Int32) (a_M_act : Nat → Int32) (H : Heap) (locs : List Loc) (ls : Array Slot) (hl : lv_has ls 5 [(0, .ref q_M), (1, .int x1), (2, .int x2)]) (hP : va_P D vwCl (ws_X11_compile cI cJ cZ cA q_M q_M_held q_M_now q_M_wait q_M_act u_M_images u_M_kept u_M_text u_M_size u_M_sign u_M_manyAbove u_M_manyBelow u_M_above u_M_below u_M_refused u_M_at u_M_begin u_M_kind u_M_value u_M_read u_M_heap u_M_clocks u_M_counts u_M_talking u_M_most u_M_hasA u_M_hasB u_M_talks u_M_big v_M_acts v_M_waits v_M_place a_M_held a_M_now a_M_wait a_M_act) H) (hD : va_D A (ws_X11_compile cI cJ cZ cA q_M q_M_held q_M_now q_M_wait q_M_act u_M_images u_M_kept u_M_text u_M_size u_M_sign u_M_manyAbove u_M_manyBelow u_M_above u_M_below u_M_refused u_M_at u_M_begin u_M_kind u_M_value u_M_read u_M_heap u_M_clocks u_M_counts u_M_talking u_M_most u_M_hasA u_M_hasB u_M_talks u_M_big v_M_acts v_M_waits v_M_place a_M_held a_M_now a_M_wait a_M_act)) (hS : va_S A s.heap H locs), k26 x1 x2 v_M_acts v_M_waits v_M_place a_M_held a_M_wait a_M_act = some o → W p l e rm_X11_compile s m args below meth c H locs 0 0 Q (F0 m 26 ls [])) (x1 : Int32) (x3 : Int32) (v_M_acts : Int32) (v_M_waits : Int32) (v_M_place : Int32) (a_M_held : Nat → Int32) (a_M_wait : Nat → Int32) (a_M_act : Nat → Int32) (H : Heap) (locs : List Loc) (ls : Array Slot) (hl : lv_has ls 5 [(0, .ref q_M), (1, .int x1), (3, .int x3)]) (hP : va_P D vwCl (ws_X11_compile cI cJ cZ cA q_M q_M_held q_M_now q_M_wait q_M_act u_M_images u_M_kept u_M_text u_M_size u_M_sign u_M_manyAbove u_M_manyBelow u_M_above u_M_below u_M_refused u_M_at u_M_begin u_M_kind u_M_value u_M_read u_M_heap u_M_clocks u_M_counts u_M_talking u_M_most u_M_hasA u_M_hasB u_M_talks u_M_big v_M_acts v_M_waits v_M_place a_M_held a_M_now a_M_wait a_M_act) H) (hD : va_D A (ws_X11_compile cI cJ cZ cA q_M q_M_held q_M_now q_M_wait q_M_act u_M_images u_M_kept u_M_text u_M_size u_M_sign u_M_manyAbove u_M_manyBelow u_M_above u_M_below u_M_refused u_M_at u_M_begin u_M_kind u_M_value u_M_read u_M_heap u_M_clocks u_M_counts u_M_talking u_M_most u_M_hasA u_M_hasB u_M_talks u_M_big v_M_acts v_M_waits v_M_place a_M_held a_M_now a_M_wait a_M_act)) (hS : va_S A s.heap H locs), g_X11_compile_185 a_M_now k26 x1 x3 v_M_acts v_M_waits v_M_place a_M_held a_M_wait a_M_act = some o → W p l e rm_X11_compile s m args below meth c H locs 0 0 Q (F0 m 185 ls []) := by
    intro k26 hk26 x1 x3 v_M_acts v_M_waits v_M_place a_M_held a_M_wait a_M_act H locs ls hl hP hD hS hg
    refine lv_iconst (v := 0) hx hb dX11_compile_185 (by decide) ?_
    refine lv_goto (tgt := 193) hx hb dX11_compile_186 (by decide) ?_
    exact B193 k26 hk26 x1 x3 0 v_M_acts v_M_waits v_M_place a_M_held a_M_wait a_M_act _ _ _ hl hP hD hS hg
  have B169 : ∀ (k26 : Int32 → Int32 → Int32 → Int32 → Int32 → (Nat → Int32) → (Nat → Int32) → (Nat → Int32) → Option (Int32 × Int32 × Int32 × Int32 × (Nat → Int32) × (Nat → Int32) × (Nat → Int32))) (hk26 : ∀ (x1 : Int32) (x2 : Int32) (v_M_acts : Int32) (v_M_waits : Int32) (v_M_place : Int32) (a_M_held : Nat → Int32) (a_M_wait : Nat → Int32) (a_M_act : Nat → Int32) (H : Heap) (locs : List Loc) (ls : Array Slot) (hl : lv_has ls 5 [(0, .ref q_M), (1, .int x1), (2, .int x2)]) (hP : va_P D vwCl (ws_X11_compile cI cJ cZ cA q_M q_M_held q_M_now q_M_wait q_M_act u_M_images u_M_kept u_M_text u_M_size u_M_sign u_M_manyAbove u_M_manyBelow u_M_above u_M_below u_M_refused u_M_at u_M_begin u_M_kind u_M_value u_M_read u_M_heap u_M_clocks u_M_counts u_M_talking u_M_most u_M_hasA u_M_hasB u_M_talks u_M_big v_M_acts v_M_waits v_M_place a_M_held a_M_now a_M_wait a_M_act) H) (hD : va_D A (ws_X11_compile cI cJ cZ cA q_M q_M_held q_M_now q_M_wait q_M_act u_M_images u_M_kept u_M_text u_M_size u_M_sign u_M_manyAbove u_M_manyBelow u_M_above u_M_below u_M_refused u_M_at u_M_begin u_M_kind u_M_value u_M_read u_M_heap u_M_clocks u_M_counts u_M_talking u_M_most u_M_hasA u_M_hasB u_M_talks u_M_big v_M_acts v_M_waits v_M_place a_M_held a_M_now a_M_wait a_M_act)) (hS : va_S A s.heap H locs), k26 x1 x2 v_M_acts v_M_waits v_M_place a_M_held a_M_wait a_M_act = some o → W p l e rm_X11_compile s m args below meth c H locs 0 0 Q (F0 m 26 ls [])) (x1 : Int32) (x3 : Int32) (v_M_acts : Int32) (v_M_waits : Int32) (v_M_place : Int32) (a_M_held : Nat → Int32) (a_M_wait : Nat → Int32) (a_M_act : Nat → Int32) (H : Heap) (locs : List Loc) (ls : Array Slot) (hl : lv_has ls 5 [(0, .ref q_M), (1, .int x1), (3, .int x3)]) (hP : va_P D vwCl (ws_X11_compile cI cJ cZ cA q_M q_M_held q_M_now q_M_wait q_M_act u_M_images u_M_kept u_M_text u_M_size u_M_sign u_M_manyAbove u_M_manyBelow u_M_above u_M_below u_M_refused u_M_at u_M_begin u_M_kind u_M_value u_M_read u_M_heap u_M_clocks u_M_counts u_M_talking u_M_most u_M_hasA u_M_hasB u_M_talks u_M_big v_M_acts v_M_waits v_M_place a_M_held a_M_now a_M_wait a_M_act) H) (hD : va_D A (ws_X11_compile cI cJ cZ cA q_M q_M_held q_M_now q_M_wait q_M_act u_M_images u_M_kept u_M_text u_M_size u_M_sign u_M_manyAbove u_M_manyBelow u_M_above u_M_below u_M_refused u_M_at u_M_begin u_M_kind u_M_value u_M_read u_M_heap u_M_clocks u_M_counts u_M_talking u_M_most u_M_hasA u_M_hasB u_M_talks u_M_big v_M_acts v_M_waits v_M_place a_M_held a_M_now a_M_wait a_M_act)) (hS : va_S A s.heap H locs), g_X11_compile_169 a_M_now k26 x1 x3 v_M_acts v_M_waits v_M_place a_M_held a_M_wait a_M_act = some o → W p l e rm_X11_compile s m args below meth c H locs 0 0 Q (F0 m 169 ls []) := by
    intro k26 hk26 x1 x3 v_M_acts v_M_waits v_M_place a_M_held a_M_wait a_M_act H locs ls hl hP hD hS hg
    refine lv_iload_n hx hb dX11_compile_169 rfl (lv_at hl 2 rfl) ?_
    refine lv_if_lt (tgt := 185) hx hb dX11_compile_170 (by decide) (fun h170 => ?_) (fun h170 => ?_)
    · have hg := zp hg h170
      exact B185 k26 hk26 x1 x3 v_M_acts v_M_waits v_M_place a_M_held a_M_wait a_M_act _ _ _ hl hP hD hS hg
    · have hg := zn hg h170
      refine lv_iload_n hx hb dX11_compile_173 rfl (lv_at hl 2 rfl) ?_
      refine lv_bipush (v := 40) hx hb dX11_compile_174 (by decide) ?_
      refine lv_icmp_eq (tgt := 185) hx hb dX11_compile_176 (by decide) (fun h176 => ?_) (fun h176 => ?_)
      · have hg := zp hg h176
        exact B185 k26 hk26 x1 x3 v_M_acts v_M_waits v_M_place a_M_held a_M_wait a_M_act _ _ _ hl hP hD hS hg
      · have hg := zn hg h176
        refine lv_iload_n hx hb dX11_compile_179 rfl (lv_at hl 2 rfl) ?_
        refine lv_bipush (v := 41) hx hb dX11_compile_180 (by decide) ?_
        refine lv_icmp_ne (tgt := 189) hx hb dX11_compile_182 (by decide) (fun h182 => ?_) (fun h182 => ?_)
        · have hg := zn hg h182
          refine lv_iload_n hx hb dX11_compile_189 rfl (lv_at hl 2 rfl) ?_
          obtain ⟨v11, hc12, hg⟩ := zbd hg
          refine zcallS (rest := []) S (c_X11_holds l D cI cJ cZ cA ga x3 v11 hc12) (zgS zw_613 zw_614 zw_5 zw_615) rfl hd_X11_holds ⟨rfl, rfl⟩ ⟨Nat.le_of_ble_eq_true rfl, Nat.le_of_ble_eq_true rfl⟩ rfl hl.1 rfl (Nat.le_of_ble_eq_true rfl) dX11_compile_190 hP hD hS hA hK hG (isC := []) rfl (by decide +kernel) rfl ⟨Nat.zero_le _, Nat.zero_le _⟩ (pl := [none, none, none, none, none]) (nw := 5) rfl (by decide +kernel) (w2 := (ws_X11_compile cI cJ cZ cA q_M q_M_held q_M_now q_M_wait q_M_act u_M_images u_M_kept u_M_text u_M_size u_M_sign u_M_manyAbove u_M_manyBelow u_M_above u_M_below u_M_refused u_M_at u_M_begin u_M_kind u_M_value u_M_read u_M_heap u_M_clocks u_M_counts u_M_talking u_M_most u_M_hasA u_M_hasB u_M_talks u_M_big v_M_acts v_M_waits v_M_place a_M_held a_M_now a_M_wait a_M_act)) rfl (st1 := [.int v11]) rfl (fun H locs hP hD hS => ?_)
          exact B193 k26 hk26 x1 x3 v11 v_M_acts v_M_waits v_M_place a_M_held a_M_wait a_M_act _ _ _ hl hP hD hS hg
        · have hg := zp hg h182
          exact B185 k26 hk26 x1 x3 v_M_acts v_M_waits v_M_place a_M_held a_M_wait a_M_act _ _ _ hl hP hD hS hg
  have B122 : ∀ (k26 : Int32 → Int32 → Int32 → Int32 → Int32 → (Nat → Int32) → (Nat → Int32) → (Nat → Int32) → Option (Int32 × Int32 × Int32 × Int32 × (Nat → Int32) × (Nat → Int32) × (Nat → Int32))) (hk26 : ∀ (x1 : Int32) (x2 : Int32) (v_M_acts : Int32) (v_M_waits : Int32) (v_M_place : Int32) (a_M_held : Nat → Int32) (a_M_wait : Nat → Int32) (a_M_act : Nat → Int32) (H : Heap) (locs : List Loc) (ls : Array Slot) (hl : lv_has ls 5 [(0, .ref q_M), (1, .int x1), (2, .int x2)]) (hP : va_P D vwCl (ws_X11_compile cI cJ cZ cA q_M q_M_held q_M_now q_M_wait q_M_act u_M_images u_M_kept u_M_text u_M_size u_M_sign u_M_manyAbove u_M_manyBelow u_M_above u_M_below u_M_refused u_M_at u_M_begin u_M_kind u_M_value u_M_read u_M_heap u_M_clocks u_M_counts u_M_talking u_M_most u_M_hasA u_M_hasB u_M_talks u_M_big v_M_acts v_M_waits v_M_place a_M_held a_M_now a_M_wait a_M_act) H) (hD : va_D A (ws_X11_compile cI cJ cZ cA q_M q_M_held q_M_now q_M_wait q_M_act u_M_images u_M_kept u_M_text u_M_size u_M_sign u_M_manyAbove u_M_manyBelow u_M_above u_M_below u_M_refused u_M_at u_M_begin u_M_kind u_M_value u_M_read u_M_heap u_M_clocks u_M_counts u_M_talking u_M_most u_M_hasA u_M_hasB u_M_talks u_M_big v_M_acts v_M_waits v_M_place a_M_held a_M_now a_M_wait a_M_act)) (hS : va_S A s.heap H locs), k26 x1 x2 v_M_acts v_M_waits v_M_place a_M_held a_M_wait a_M_act = some o → W p l e rm_X11_compile s m args below meth c H locs 0 0 Q (F0 m 26 ls [])) (x1 : Int32) (x2 : Int32) (x3 : Int32) (v_M_acts : Int32) (v_M_waits : Int32) (v_M_place : Int32) (a_M_held : Nat → Int32) (a_M_wait : Nat → Int32) (a_M_act : Nat → Int32) (H : Heap) (locs : List Loc) (ls : Array Slot) (hl : lv_has ls 5 [(0, .ref q_M), (1, .int x1), (2, .int x2), (3, .int x3)]) (hP : va_P D vwCl (ws_X11_compile cI cJ cZ cA q_M q_M_held q_M_now q_M_wait q_M_act u_M_images u_M_kept u_M_text u_M_size u_M_sign u_M_manyAbove u_M_manyBelow u_M_above u_M_below u_M_refused u_M_at u_M_begin u_M_kind u_M_value u_M_read u_M_heap u_M_clocks u_M_counts u_M_talking u_M_most u_M_hasA u_M_hasB u_M_talks u_M_big v_M_acts v_M_waits v_M_place a_M_held a_M_now a_M_wait a_M_act) H) (hD : va_D A (ws_X11_compile cI cJ cZ cA q_M q_M_held q_M_now q_M_wait q_M_act u_M_images u_M_kept u_M_text u_M_size u_M_sign u_M_manyAbove u_M_manyBelow u_M_above u_M_below u_M_refused u_M_at u_M_begin u_M_kind u_M_value u_M_read u_M_heap u_M_clocks u_M_counts u_M_talking u_M_most u_M_hasA u_M_hasB u_M_talks u_M_big v_M_acts v_M_waits v_M_place a_M_held a_M_now a_M_wait a_M_act)) (hS : va_S A s.heap H locs), g_X11_compile_122 a_M_now k26 x1 x2 x3 v_M_acts v_M_waits v_M_place a_M_held a_M_wait a_M_act = some o → W p l e rm_X11_compile s m args below meth c H locs 0 0 Q (F0 m 122 ls []) := by
    intro k26 hk26 x1 x2 x3 v_M_acts v_M_waits v_M_place a_M_held a_M_wait a_M_act H locs ls hl hP hD hS hg
    refine lv_iload_n hx hb dX11_compile_122 rfl (lv_at hl 3 rfl) ?_
    refine lv_bipush (v := 41) hx hb dX11_compile_123 (by decide) ?_
    refine lv_icmp_ne (tgt := 169) hx hb dX11_compile_125 (by decide) (fun h125 => ?_) (fun h125 => ?_)
    · have hg := zn hg h125
      exact B169 k26 hk26 x1 x3 v_M_acts v_M_waits v_M_place a_M_held a_M_wait a_M_act _ _ _ (lv_sub hl [0, 1, 3] rfl) hP hD hS hg
    · have hg := zp hg h125
      refine lv_iload_n hx hb dX11_compile_128 rfl (lv_at hl 1 rfl) ?_
      refine lv_if_le (tgt := 169) hx hb dX11_compile_129 (by decide) (fun h129 => ?_) (fun h129 => ?_)
      · have hg := zp hg h129
        exact B169 k26 hk26 x1 x3 v_M_acts v_M_waits v_M_place a_M_held a_M_wait a_M_act _ _ _ (lv_sub hl [0, 1, 3] rfl) hP hD hS hg
      · have hg := zn hg h129
        refine lv_aload_n hx hb dX11_compile_132 rfl (lv_at hl 0 rfl) ?_
        refine lv_iconst (v := 1) hx hb dX11_compile_133 (by decide) ?_
        obtain ⟨v13, hc14, hg⟩ := zbd hg
        refine zcallV (rest := []) S (c_X11_does l D cI cJ cZ cA ga q_M q_M_wait q_M_act (.ref q_M_now) u_M_images u_M_kept u_M_text u_M_size u_M_sign u_M_manyAbove u_M_manyBelow u_M_above u_M_below u_M_refused u_M_at u_M_begin u_M_kind u_M_value u_M_read (.ref q_M_held) (.int v_M_place) u_M_heap u_M_clocks u_M_counts u_M_talking u_M_most u_M_hasA u_M_hasB u_M_talks u_M_big v_M_acts v_M_waits a_M_wait a_M_act 1 v13 hc14) (zgV zw_609 zw_610 zw_611 zw_5 zw_612) rfl hd_X11_does ⟨rfl, rfl⟩ ⟨Nat.le_of_ble_eq_true rfl, Nat.le_of_ble_eq_true rfl⟩ 0 11 rfl rfl rfl hl.1 rfl (Nat.le_of_ble_eq_true rfl) dX11_compile_134 hP hD hS hA hK hG (isC := [0, 3, 4]) rfl (by decide +kernel) rfl ⟨Nat.zero_le _, Nat.zero_le _⟩ (pl := [some 0, none, none, some 1, some 2]) (nw := 5) rfl (by decide +kernel) (w2 := (ws_X11_compile cI cJ cZ cA q_M q_M_held q_M_now q_M_wait q_M_act u_M_images u_M_kept u_M_text u_M_size u_M_sign u_M_manyAbove u_M_manyBelow u_M_above u_M_below u_M_refused u_M_at u_M_begin u_M_kind u_M_value u_M_read u_M_heap u_M_clocks u_M_counts u_M_talking u_M_most u_M_hasA u_M_hasB u_M_talks u_M_big v13.1 v13.2.1 v_M_place a_M_held a_M_now a_M_wait v13.2.2)) rfl (st1 := []) rfl (fun H locs hP hD hS => ?_)
        refine lv_aload_n hx hb dX11_compile_137 rfl (lv_at hl 0 rfl) ?_
        refine lv_dup hx hb dX11_compile_138 rfl ?_
        refine zget (C := RX11) (T := TX11) (N := 31) S hK hP 0 rfl rfl 18 (Nat.le_of_ble_eq_true rfl) zf_11 zw_596 rfl dX11_compile_139 ?_
        refine lv_iconst (v := 1) hx hb dX11_compile_142 (by decide) ?_
        refine lv_isub hx hb dX11_compile_143 ?_
        refine zputf (C := RX11) (T := TX11) (N := 31) (ty := .int) S hK hP hD hS 0 rfl rfl 18 (Nat.le_of_ble_eq_true rfl) zf_11 tyX11 tyX11_ok nmX11 zw_596 rfl (by decide +kernel) rfl rfl (Nat.le_of_ble_eq_true rfl) dX11_compile_144 (w2 := (ws_X11_compile cI cJ cZ cA q_M q_M_held q_M_now q_M_wait q_M_act u_M_images u_M_kept u_M_text u_M_size u_M_sign u_M_manyAbove u_M_manyBelow u_M_above u_M_below u_M_refused u_M_at u_M_begin u_M_kind u_M_value u_M_read u_M_heap u_M_clocks u_M_counts u_M_talking u_M_most u_M_hasA u_M_hasB u_M_talks u_M_big v13.1 (v13.2.1 - 1) v_M_place a_M_held a_M_now a_M_wait v13.2.2)) rfl (fun H locs hP hD hS => ?_)
        refine lv_iinc (k := 1) (v := x1 + (-1)) (lv' := [(1, .int (x1 + (-1))), (0, .ref q_M), (2, .int x2), (3, .int x3)]) hx hb dX11_compile_147 hl rfl (zinc (by decide)) (by decide) rfl (fun ls hl => ?_)
        refine lv_aload_n hx hb dX11_compile_150 rfl (lv_at hl 1 rfl) ?_
        refine lv_dup hx hb dX11_compile_151 rfl ?_
        refine zget (C := RX11) (T := TX11) (N := 31) S hK hP 0 rfl rfl 21 (Nat.le_of_ble_eq_true rfl) zf_11 zw_597 rfl dX11_compile_152 ?_
        refine lv_iconst (v := 1) hx hb dX11_compile_155 (by decide) ?_
        refine lv_iadd hx hb dX11_compile_156 ?_
        refine zputf (C := RX11) (T := TX11) (N := 31) (ty := .int) S hK hP hD hS 0 rfl rfl 21 (Nat.le_of_ble_eq_true rfl) zf_11 tyX11 tyX11_ok nmX11 zw_597 rfl (by decide +kernel) rfl rfl (Nat.le_of_ble_eq_true rfl) dX11_compile_157 (w2 := (ws_X11_compile cI cJ cZ cA q_M q_M_held q_M_now q_M_wait q_M_act u_M_images u_M_kept u_M_text u_M_size u_M_sign u_M_manyAbove u_M_manyBelow u_M_above u_M_below u_M_refused u_M_at u_M_begin u_M_kind u_M_value u_M_read u_M_heap u_M_clocks u_M_counts u_M_talking u_M_most u_M_hasA u_M_hasB u_M_talks u_M_big v13.1 (v13.2.1 - 1) (v_M_place + 1) a_M_held a_M_now a_M_wait v13.2.2)) rfl (fun H locs hP hD hS => ?_)
        refine lv_aload_n hx hb dX11_compile_160 rfl (lv_at hl 1 rfl) ?_
        refine lv_bipush (v := 6) hx hb dX11_compile_161 (by decide) ?_
        obtain ⟨v15, hc16, hg⟩ := zbd hg
        refine zcallV (rest := []) S (c_X11_does l D cI cJ cZ cA ga q_M q_M_wait q_M_act (.ref q_M_now) u_M_images u_M_kept u_M_text u_M_size u_M_sign u_M_manyAbove u_M_manyBelow u_M_above u_M_below u_M_refused u_M_at u_M_begin u_M_kind u_M_value u_M_read (.ref q_M_held) (.int (v_M_place + 1)) u_M_heap u_M_clocks u_M_counts u_M_talking u_M_most u_M_hasA u_M_hasB u_M_talks u_M_big v13.1 (v13.2.1 - 1) a_M_wait v13.2.2 6 v15 hc16) (zgV zw_609 zw_610 zw_611 zw_5 zw_612) rfl hd_X11_does ⟨rfl, rfl⟩ ⟨Nat.le_of_ble_eq_true rfl, Nat.le_of_ble_eq_true rfl⟩ 0 11 rfl rfl rfl hl.1 rfl (Nat.le_of_ble_eq_true rfl) dX11_compile_163 hP hD hS hA hK hG (isC := [0, 3, 4]) rfl (by decide +kernel) rfl ⟨Nat.zero_le _, Nat.zero_le _⟩ (pl := [some 0, none, none, some 1, some 2]) (nw := 5) rfl (by decide +kernel) (w2 := (ws_X11_compile cI cJ cZ cA q_M q_M_held q_M_now q_M_wait q_M_act u_M_images u_M_kept u_M_text u_M_size u_M_sign u_M_manyAbove u_M_manyBelow u_M_above u_M_below u_M_refused u_M_at u_M_begin u_M_kind u_M_value u_M_read u_M_heap u_M_clocks u_M_counts u_M_talking u_M_most u_M_hasA u_M_hasB u_M_talks u_M_big v15.1 v15.2.1 (v_M_place + 1) a_M_held a_M_now a_M_wait v15.2.2)) rfl (st1 := []) rfl (fun H locs hP hD hS => ?_)
        refine lv_goto (tgt := 26) hx hb dX11_compile_166 (by decide) ?_
        exact hk26 (x1 + (-1)) x2 v15.1 v15.2.1 (v_M_place + 1) a_M_held a_M_wait v15.2.2 _ _ _ (lv_sub hl [1, 0, 2] rfl) hP hD hS hg
  have B85 : ∀ (k26 : Int32 → Int32 → Int32 → Int32 → Int32 → (Nat → Int32) → (Nat → Int32) → (Nat → Int32) → Option (Int32 × Int32 × Int32 × Int32 × (Nat → Int32) × (Nat → Int32) × (Nat → Int32))) (hk26 : ∀ (x1 : Int32) (x2 : Int32) (v_M_acts : Int32) (v_M_waits : Int32) (v_M_place : Int32) (a_M_held : Nat → Int32) (a_M_wait : Nat → Int32) (a_M_act : Nat → Int32) (H : Heap) (locs : List Loc) (ls : Array Slot) (hl : lv_has ls 5 [(0, .ref q_M), (1, .int x1), (2, .int x2)]) (hP : va_P D vwCl (ws_X11_compile cI cJ cZ cA q_M q_M_held q_M_now q_M_wait q_M_act u_M_images u_M_kept u_M_text u_M_size u_M_sign u_M_manyAbove u_M_manyBelow u_M_above u_M_below u_M_refused u_M_at u_M_begin u_M_kind u_M_value u_M_read u_M_heap u_M_clocks u_M_counts u_M_talking u_M_most u_M_hasA u_M_hasB u_M_talks u_M_big v_M_acts v_M_waits v_M_place a_M_held a_M_now a_M_wait a_M_act) H) (hD : va_D A (ws_X11_compile cI cJ cZ cA q_M q_M_held q_M_now q_M_wait q_M_act u_M_images u_M_kept u_M_text u_M_size u_M_sign u_M_manyAbove u_M_manyBelow u_M_above u_M_below u_M_refused u_M_at u_M_begin u_M_kind u_M_value u_M_read u_M_heap u_M_clocks u_M_counts u_M_talking u_M_most u_M_hasA u_M_hasB u_M_talks u_M_big v_M_acts v_M_waits v_M_place a_M_held a_M_now a_M_wait a_M_act)) (hS : va_S A s.heap H locs), k26 x1 x2 v_M_acts v_M_waits v_M_place a_M_held a_M_wait a_M_act = some o → W p l e rm_X11_compile s m args below meth c H locs 0 0 Q (F0 m 26 ls [])) (x1 : Int32) (x2 : Int32) (x3 : Int32) (v_M_acts : Int32) (v_M_waits : Int32) (v_M_place : Int32) (a_M_held : Nat → Int32) (a_M_wait : Nat → Int32) (a_M_act : Nat → Int32) (H : Heap) (locs : List Loc) (ls : Array Slot) (hl : lv_has ls 5 [(0, .ref q_M), (1, .int x1), (2, .int x2), (3, .int x3)]) (hP : va_P D vwCl (ws_X11_compile cI cJ cZ cA q_M q_M_held q_M_now q_M_wait q_M_act u_M_images u_M_kept u_M_text u_M_size u_M_sign u_M_manyAbove u_M_manyBelow u_M_above u_M_below u_M_refused u_M_at u_M_begin u_M_kind u_M_value u_M_read u_M_heap u_M_clocks u_M_counts u_M_talking u_M_most u_M_hasA u_M_hasB u_M_talks u_M_big v_M_acts v_M_waits v_M_place a_M_held a_M_now a_M_wait a_M_act) H) (hD : va_D A (ws_X11_compile cI cJ cZ cA q_M q_M_held q_M_now q_M_wait q_M_act u_M_images u_M_kept u_M_text u_M_size u_M_sign u_M_manyAbove u_M_manyBelow u_M_above u_M_below u_M_refused u_M_at u_M_begin u_M_kind u_M_value u_M_read u_M_heap u_M_clocks u_M_counts u_M_talking u_M_most u_M_hasA u_M_hasB u_M_talks u_M_big v_M_acts v_M_waits v_M_place a_M_held a_M_now a_M_wait a_M_act)) (hS : va_S A s.heap H locs), g_X11_compile_85 a_M_now k26 x1 x2 x3 v_M_acts v_M_waits v_M_place a_M_held a_M_wait a_M_act = some o → W p l e rm_X11_compile s m args below meth c H locs 0 0 Q (F0 m 85 ls []) := by
    intro k26 hk26 x1 x2 x3 v_M_acts v_M_waits v_M_place a_M_held a_M_wait a_M_act H locs ls hl hP hD hS hg
    refine lv_iload_n hx hb dX11_compile_85 rfl (lv_at hl 3 rfl) ?_
    refine lv_iconst (v := 1) hx hb dX11_compile_86 (by decide) ?_
    refine lv_icmp_ne (tgt := 26) hx hb dX11_compile_87 (by decide) (fun h87 => ?_) (fun h87 => ?_)
    · have hg := zn hg h87
      exact hk26 x1 x2 v_M_acts v_M_waits v_M_place a_M_held a_M_wait a_M_act _ _ _ (lv_sub hl [0, 1, 2] rfl) hP hD hS hg
    · have hg := zp hg h87
      refine lv_aload_n hx hb dX11_compile_90 rfl (lv_at hl 0 rfl) ?_
      refine lv_bipush (v := 6) hx hb dX11_compile_91 (by decide) ?_
      obtain ⟨v21, hc22, hg⟩ := zbd hg
      refine zcallV (rest := []) S (c_X11_does l D cI cJ cZ cA ga q_M q_M_wait q_M_act (.ref q_M_now) u_M_images u_M_kept u_M_text u_M_size u_M_sign u_M_manyAbove u_M_manyBelow u_M_above u_M_below u_M_refused u_M_at u_M_begin u_M_kind u_M_value u_M_read (.ref q_M_held) (.int v_M_place) u_M_heap u_M_clocks u_M_counts u_M_talking u_M_most u_M_hasA u_M_hasB u_M_talks u_M_big v_M_acts v_M_waits a_M_wait a_M_act 6 v21 hc22) (zgV zw_609 zw_610 zw_611 zw_5 zw_612) rfl hd_X11_does ⟨rfl, rfl⟩ ⟨Nat.le_of_ble_eq_true rfl, Nat.le_of_ble_eq_true rfl⟩ 0 11 rfl rfl rfl hl.1 rfl (Nat.le_of_ble_eq_true rfl) dX11_compile_93 hP hD hS hA hK hG (isC := [0, 3, 4]) rfl (by decide +kernel) rfl ⟨Nat.zero_le _, Nat.zero_le _⟩ (pl := [some 0, none, none, some 1, some 2]) (nw := 5) rfl (by decide +kernel) (w2 := (ws_X11_compile cI cJ cZ cA q_M q_M_held q_M_now q_M_wait q_M_act u_M_images u_M_kept u_M_text u_M_size u_M_sign u_M_manyAbove u_M_manyBelow u_M_above u_M_below u_M_refused u_M_at u_M_begin u_M_kind u_M_value u_M_read u_M_heap u_M_clocks u_M_counts u_M_talking u_M_most u_M_hasA u_M_hasB u_M_talks u_M_big v21.1 v21.2.1 v_M_place a_M_held a_M_now a_M_wait v21.2.2)) rfl (st1 := []) rfl (fun H locs hP hD hS => ?_)
      refine lv_iconst (v := 0) hx hb dX11_compile_96 (by decide) ?_
      refine lv_istore_n (lv' := [(2, .int 0), (0, .ref q_M), (1, .int x1), (3, .int x3)]) hx hb dX11_compile_97 rfl hl (by decide) rfl (fun ls hl => ?_)
      refine lv_goto (tgt := 26) hx hb dX11_compile_98 (by decide) ?_
      exact hk26 x1 0 v21.1 v21.2.1 v_M_place a_M_held a_M_wait v21.2.2 _ _ _ (lv_sub hl [1, 2, 0] rfl) hP hD hS hg
  have B55 : ∀ (k26 : Int32 → Int32 → Int32 → Int32 → Int32 → (Nat → Int32) → (Nat → Int32) → (Nat → Int32) → Option (Int32 × Int32 × Int32 × Int32 × (Nat → Int32) × (Nat → Int32) × (Nat → Int32))) (hk26 : ∀ (x1 : Int32) (x2 : Int32) (v_M_acts : Int32) (v_M_waits : Int32) (v_M_place : Int32) (a_M_held : Nat → Int32) (a_M_wait : Nat → Int32) (a_M_act : Nat → Int32) (H : Heap) (locs : List Loc) (ls : Array Slot) (hl : lv_has ls 5 [(0, .ref q_M), (1, .int x1), (2, .int x2)]) (hP : va_P D vwCl (ws_X11_compile cI cJ cZ cA q_M q_M_held q_M_now q_M_wait q_M_act u_M_images u_M_kept u_M_text u_M_size u_M_sign u_M_manyAbove u_M_manyBelow u_M_above u_M_below u_M_refused u_M_at u_M_begin u_M_kind u_M_value u_M_read u_M_heap u_M_clocks u_M_counts u_M_talking u_M_most u_M_hasA u_M_hasB u_M_talks u_M_big v_M_acts v_M_waits v_M_place a_M_held a_M_now a_M_wait a_M_act) H) (hD : va_D A (ws_X11_compile cI cJ cZ cA q_M q_M_held q_M_now q_M_wait q_M_act u_M_images u_M_kept u_M_text u_M_size u_M_sign u_M_manyAbove u_M_manyBelow u_M_above u_M_below u_M_refused u_M_at u_M_begin u_M_kind u_M_value u_M_read u_M_heap u_M_clocks u_M_counts u_M_talking u_M_most u_M_hasA u_M_hasB u_M_talks u_M_big v_M_acts v_M_waits v_M_place a_M_held a_M_now a_M_wait a_M_act)) (hS : va_S A s.heap H locs), k26 x1 x2 v_M_acts v_M_waits v_M_place a_M_held a_M_wait a_M_act = some o → W p l e rm_X11_compile s m args below meth c H locs 0 0 Q (F0 m 26 ls [])) (x1 : Int32) (x2 : Int32) (x3 : Int32) (v_M_acts : Int32) (v_M_waits : Int32) (v_M_place : Int32) (a_M_held : Nat → Int32) (a_M_wait : Nat → Int32) (a_M_act : Nat → Int32) (H : Heap) (locs : List Loc) (ls : Array Slot) (hl : lv_has ls 5 [(0, .ref q_M), (1, .int x1), (2, .int x2), (3, .int x3)]) (hP : va_P D vwCl (ws_X11_compile cI cJ cZ cA q_M q_M_held q_M_now q_M_wait q_M_act u_M_images u_M_kept u_M_text u_M_size u_M_sign u_M_manyAbove u_M_manyBelow u_M_above u_M_below u_M_refused u_M_at u_M_begin u_M_kind u_M_value u_M_read u_M_heap u_M_clocks u_M_counts u_M_talking u_M_most u_M_hasA u_M_hasB u_M_talks u_M_big v_M_acts v_M_waits v_M_place a_M_held a_M_now a_M_wait a_M_act) H) (hD : va_D A (ws_X11_compile cI cJ cZ cA q_M q_M_held q_M_now q_M_wait q_M_act u_M_images u_M_kept u_M_text u_M_size u_M_sign u_M_manyAbove u_M_manyBelow u_M_above u_M_below u_M_refused u_M_at u_M_begin u_M_kind u_M_value u_M_read u_M_heap u_M_clocks u_M_counts u_M_talking u_M_most u_M_hasA u_M_hasB u_M_talks u_M_big v_M_acts v_M_waits v_M_place a_M_held a_M_now a_M_wait a_M_act)) (hS : va_S A s.heap H locs), g_X11_compile_55 a_M_now k26 x1 x2 x3 v_M_acts v_M_waits v_M_place a_M_held a_M_wait a_M_act = some o → W p l e rm_X11_compile s m args below meth c H locs 0 0 Q (F0 m 55 ls []) := by
    intro k26 hk26 x1 x2 x3 v_M_acts v_M_waits v_M_place a_M_held a_M_wait a_M_act H locs ls hl hP hD hS hg
    refine lv_iload_n hx hb dX11_compile_55 rfl (lv_at hl 3 rfl) ?_
    refine lv_if_ne (tgt := 85) hx hb dX11_compile_56 (by decide) (fun h56 => ?_) (fun h56 => ?_)
    · have hg := zn hg h56
      exact B85 k26 hk26 x1 x2 x3 v_M_acts v_M_waits v_M_place a_M_held a_M_wait a_M_act _ _ _ hl hP hD hS hg
    · have hg := zp hg h56
      refine lv_aload_n hx hb dX11_compile_59 rfl (lv_at hl 0 rfl) ?_
      refine zget (C := RX11) (T := TX11) (N := 31) S hK hP 0 rfl rfl 19 (Nat.le_of_ble_eq_true rfl) zf_11 zw_159 rfl dX11_compile_60 ?_
      refine lv_aload_n hx hb dX11_compile_63 rfl (lv_at hl 0 rfl) ?_
      refine zget (C := RX11) (T := TX11) (N := 31) S hK hP 0 rfl rfl 18 (Nat.le_of_ble_eq_true rfl) zf_11 zw_596 rfl dX11_compile_64 ?_
      refine lv_iconst (v := 1) hx hb dX11_compile_67 (by decide) ?_
      refine lv_isub hx hb dX11_compile_68 ?_
      obtain ⟨h23, hg⟩ := zck hg
      refine ziald hx hb hK hP 3 0 rfl rfl (j := ((v_M_waits - 1).toNatClampNeg)) h23 rfl dX11_compile_69 ?_
      refine lv_bipush (v := 40) hx hb dX11_compile_70 (by decide) ?_
      refine lv_icmp_ne (tgt := 85) hx hb dX11_compile_72 (by decide) (fun h72 => ?_) (fun h72 => ?_)
      · have hg := zn hg h72
        exact B85 k26 hk26 x1 x2 x3 v_M_acts v_M_waits v_M_place a_M_held a_M_wait a_M_act _ _ _ hl hP hD hS hg
      · have hg := zp hg h72
        refine lv_iinc (k := 1) (v := x1 + 1) (lv' := [(1, .int (x1 + 1)), (0, .ref q_M), (2, .int x2), (3, .int x3)]) hx hb dX11_compile_75 hl rfl (zinc (by decide)) (by decide) rfl (fun ls hl => ?_)
        refine lv_aload_n hx hb dX11_compile_78 rfl (lv_at hl 1 rfl) ?_
        refine zget (C := RX11) (T := TX11) (N := 31) S hK hP 0 rfl rfl 20 (Nat.le_of_ble_eq_true rfl) zf_11 zw_160 rfl dX11_compile_79 ?_
        refine lv_iload_n hx hb dX11_compile_82 rfl (lv_at hl 0 rfl) ?_
        refine lv_iconst (v := 0) hx hb dX11_compile_83 (by decide) ?_
        obtain ⟨h24, hg⟩ := zck hg
        refine zzast hx hb hK hP hD hS 1 2 rfl rfl (j := ((x1 + 1).toNatClampNeg)) (y := 0) rfl h24 rfl dX11_compile_84 (w2 := (ws_X11_compile cI cJ cZ cA q_M q_M_held q_M_now q_M_wait q_M_act u_M_images u_M_kept u_M_text u_M_size u_M_sign u_M_manyAbove u_M_manyBelow u_M_above u_M_below u_M_refused u_M_at u_M_begin u_M_kind u_M_value u_M_read u_M_heap u_M_clocks u_M_counts u_M_talking u_M_most u_M_hasA u_M_hasB u_M_talks u_M_big v_M_acts v_M_waits v_M_place (upd a_M_held ((x1 + 1).toNatClampNeg) 0) a_M_now a_M_wait a_M_act)) rfl (fun H locs hP hD hS => ?_)
        exact B85 k26 hk26 (x1 + 1) x2 x3 v_M_acts v_M_waits v_M_place (upd a_M_held ((x1 + 1).toNatClampNeg) 0) a_M_wait a_M_act _ _ _ (lv_sub hl [1, 0, 2, 3] rfl) hP hD hS hg
  have B26 : ∀  (n : Nat) (x1 : Int32) (x2 : Int32) (v_M_acts : Int32) (v_M_waits : Int32) (v_M_place : Int32) (a_M_held : Nat → Int32) (a_M_wait : Nat → Int32) (a_M_act : Nat → Int32) (H : Heap) (locs : List Loc) (ls : Array Slot) (hl : lv_has ls 5 [(0, .ref q_M), (1, .int x1), (2, .int x2)]) (hP : va_P D vwCl (ws_X11_compile cI cJ cZ cA q_M q_M_held q_M_now q_M_wait q_M_act u_M_images u_M_kept u_M_text u_M_size u_M_sign u_M_manyAbove u_M_manyBelow u_M_above u_M_below u_M_refused u_M_at u_M_begin u_M_kind u_M_value u_M_read u_M_heap u_M_clocks u_M_counts u_M_talking u_M_most u_M_hasA u_M_hasB u_M_talks u_M_big v_M_acts v_M_waits v_M_place a_M_held a_M_now a_M_wait a_M_act) H) (hD : va_D A (ws_X11_compile cI cJ cZ cA q_M q_M_held q_M_now q_M_wait q_M_act u_M_images u_M_kept u_M_text u_M_size u_M_sign u_M_manyAbove u_M_manyBelow u_M_above u_M_below u_M_refused u_M_at u_M_begin u_M_kind u_M_value u_M_read u_M_heap u_M_clocks u_M_counts u_M_talking u_M_most u_M_hasA u_M_hasB u_M_talks u_M_big v_M_acts v_M_waits v_M_place a_M_held a_M_now a_M_wait a_M_act)) (hS : va_S A s.heap H locs), g_X11_compile_26 a_M_now n x1 x2 v_M_acts v_M_waits v_M_place a_M_held a_M_wait a_M_act = some o → W p l e rm_X11_compile s m args below meth c H locs 0 0 Q (F0 m 26 ls []) := by
    intro  n
    induction n with
    | zero => intro x1 x2 v_M_acts v_M_waits v_M_place a_M_held a_M_wait a_M_act H locs ls hl hP hD hS hg; exact nomatch (show (none : Option (Int32 × Int32 × Int32 × Int32 × (Nat → Int32) × (Nat → Int32) × (Nat → Int32))) = some o from hg)
    | succ n ih =>
      intro x1 x2 v_M_acts v_M_waits v_M_place a_M_held a_M_wait a_M_act H locs ls hl hP hD hS hg
      have hg : g_X11_compile_26b a_M_now (g_X11_compile_26 a_M_now n) x1 x2 v_M_acts v_M_waits v_M_place a_M_held a_M_wait a_M_act = some o := hg
      refine lv_iload_n hx hb dX11_compile_26 rfl (lv_at hl 2 rfl) ?_
      refine lv_if_eq (tgt := 101) hx hb dX11_compile_27 (by decide) (fun h27 => ?_) (fun h27 => ?_)
      · have hg := zp hg h27
        refine lv_aload_n hx hb dX11_compile_101 rfl (lv_at hl 0 rfl) ?_
        obtain ⟨v1, hc2, hg⟩ := zbd hg
        refine zcallV (rest := []) S (c_X11_here l D cI cJ cZ cA ga q_M q_M_now u_M_images u_M_kept u_M_text u_M_size u_M_sign u_M_manyAbove u_M_manyBelow u_M_above u_M_below u_M_refused u_M_at u_M_begin u_M_kind u_M_value u_M_read (.int v_M_acts) (.ref q_M_act) (.int v_M_waits) (.ref q_M_wait) (.ref q_M_held) u_M_heap u_M_clocks u_M_counts u_M_talking u_M_most u_M_hasA u_M_hasB u_M_talks u_M_big v_M_place a_M_now v1 hc2) (zgV zw_602 zw_603 zw_604 zw_5 zw_605) rfl hd_X11_here ⟨rfl, rfl⟩ ⟨Nat.le_of_ble_eq_true rfl, Nat.le_of_ble_eq_true rfl⟩ 0 11 rfl rfl rfl hl.1 rfl (Nat.le_of_ble_eq_true rfl) dX11_compile_102 hP hD hS hA hK hG (isC := [0, 2]) rfl (by decide +kernel) rfl ⟨Nat.zero_le _, Nat.zero_le _⟩ (pl := [some 0, none, some 1, none, none]) (nw := 5) rfl (by decide +kernel) (w2 := (ws_X11_compile cI cJ cZ cA q_M q_M_held q_M_now q_M_wait q_M_act u_M_images u_M_kept u_M_text u_M_size u_M_sign u_M_manyAbove u_M_manyBelow u_M_above u_M_below u_M_refused u_M_at u_M_begin u_M_kind u_M_value u_M_read u_M_heap u_M_clocks u_M_counts u_M_talking u_M_most u_M_hasA u_M_hasB u_M_talks u_M_big v_M_acts v_M_waits v1.2 a_M_held a_M_now a_M_wait a_M_act)) rfl (st1 := [.int v1.1]) rfl (fun H locs hP hD hS => ?_)
        refine lv_istore_n (lv' := [(3, .int v1.1), (0, .ref q_M), (1, .int x1), (2, .int x2)]) hx hb dX11_compile_105 rfl hl (by decide) rfl (fun ls hl => ?_)
        refine lv_iload_n hx hb dX11_compile_106 rfl (lv_at hl 0 rfl) ?_
        refine lv_iconst (v := (-1)) hx hb dX11_compile_107 (by decide) ?_
        refine lv_icmp_ne (tgt := 122) hx hb dX11_compile_108 (by decide) (fun h108 => ?_) (fun h108 => ?_)
        · have hg := zn hg h108
          exact B122 (g_X11_compile_26 a_M_now n) ih x1 x2 v1.1 v_M_acts v_M_waits v1.2 a_M_held a_M_wait a_M_act _ _ _ (lv_sub hl [1, 2, 3, 0] rfl) hP hD hS hg
        · have hg := zp hg h108
          refine lv_iload_n hx hb dX11_compile_111 rfl (lv_at hl 2 rfl) ?_
          refine lv_if_ne (tgt := 122) hx hb dX11_compile_112 (by decide) (fun h112 => ?_) (fun h112 => ?_)
          · have hg := zn hg h112
            exact B122 (g_X11_compile_26 a_M_now n) ih x1 x2 v1.1 v_M_acts v_M_waits v1.2 a_M_held a_M_wait a_M_act _ _ _ (lv_sub hl [1, 2, 3, 0] rfl) hP hD hS hg
          · have hg := zp hg h112
            refine lv_aload_n hx hb dX11_compile_115 rfl (lv_at hl 1 rfl) ?_
            refine lv_iconst (v := 1) hx hb dX11_compile_116 (by decide) ?_
            obtain ⟨v17, hc18, hg⟩ := zbd hg
            refine zcallV (rest := []) S (c_X11_does l D cI cJ cZ cA ga q_M q_M_wait q_M_act (.ref q_M_now) u_M_images u_M_kept u_M_text u_M_size u_M_sign u_M_manyAbove u_M_manyBelow u_M_above u_M_below u_M_refused u_M_at u_M_begin u_M_kind u_M_value u_M_read (.ref q_M_held) (.int v1.2) u_M_heap u_M_clocks u_M_counts u_M_talking u_M_most u_M_hasA u_M_hasB u_M_talks u_M_big v_M_acts v_M_waits a_M_wait a_M_act 1 v17 hc18) (zgV zw_609 zw_610 zw_611 zw_5 zw_612) rfl hd_X11_does ⟨rfl, rfl⟩ ⟨Nat.le_of_ble_eq_true rfl, Nat.le_of_ble_eq_true rfl⟩ 0 11 rfl rfl rfl hl.1 rfl (Nat.le_of_ble_eq_true rfl) dX11_compile_117 hP hD hS hA hK hG (isC := [0, 3, 4]) rfl (by decide +kernel) rfl ⟨Nat.zero_le _, Nat.zero_le _⟩ (pl := [some 0, none, none, some 1, some 2]) (nw := 5) rfl (by decide +kernel) (w2 := (ws_X11_compile cI cJ cZ cA q_M q_M_held q_M_now q_M_wait q_M_act u_M_images u_M_kept u_M_text u_M_size u_M_sign u_M_manyAbove u_M_manyBelow u_M_above u_M_below u_M_refused u_M_at u_M_begin u_M_kind u_M_value u_M_read u_M_heap u_M_clocks u_M_counts u_M_talking u_M_most u_M_hasA u_M_hasB u_M_talks u_M_big v17.1 v17.2.1 v1.2 a_M_held a_M_now a_M_wait v17.2.2)) rfl (st1 := []) rfl (fun H locs hP hD hS => ?_)
            refine lv_iconst (v := (-1)) hx hb dX11_compile_120 (by decide) ?_
            exact hret (-1) v17.1 v17.2.1 v1.2 a_M_held a_M_wait v17.2.2 hg _ _ _ _ hP hS dX11_compile_121
      · have hg := zn hg h27
        refine lv_aload_n hx hb dX11_compile_30 rfl (lv_at hl 0 rfl) ?_
        refine lv_iload_n hx hb dX11_compile_31 rfl (lv_at hl 1 rfl) ?_
        obtain ⟨v19, hc20, hg⟩ := zbd hg
        refine zcallV (rest := []) S (c_X11_takesUnit l D cI cJ cZ cA ga q_M q_M_now q_M_wait q_M_act u_M_images u_M_kept u_M_text u_M_size u_M_sign u_M_manyAbove u_M_manyBelow u_M_above u_M_below u_M_refused u_M_at u_M_begin u_M_kind u_M_value u_M_read (.ref q_M_held) u_M_heap u_M_clocks u_M_counts u_M_talking u_M_most u_M_hasA u_M_hasB u_M_talks u_M_big v_M_acts v_M_waits v_M_place a_M_now a_M_wait a_M_act x1 v19 hc20) (zgV zw_598 zw_599 zw_600 zw_5 zw_601) rfl hd_X11_takesUnit ⟨rfl, rfl⟩ ⟨Nat.le_of_ble_eq_true rfl, Nat.le_of_ble_eq_true rfl⟩ 0 11 rfl rfl rfl hl.1 rfl (Nat.le_of_ble_eq_true rfl) dX11_compile_32 hP hD hS hA hK hG (isC := [0, 2, 3, 4]) rfl (by decide +kernel) rfl ⟨Nat.zero_le _, Nat.zero_le _⟩ (pl := [some 0, none, some 1, some 2, some 3]) (nw := 5) rfl (by decide +kernel) (w2 := (ws_X11_compile cI cJ cZ cA q_M q_M_held q_M_now q_M_wait q_M_act u_M_images u_M_kept u_M_text u_M_size u_M_sign u_M_manyAbove u_M_manyBelow u_M_above u_M_below u_M_refused u_M_at u_M_begin u_M_kind u_M_value u_M_read u_M_heap u_M_clocks u_M_counts u_M_talking u_M_most u_M_hasA u_M_hasB u_M_talks u_M_big v19.2.1 v19.2.2.1 v19.2.2.2.1 a_M_held a_M_now v19.2.2.2.2.1 v19.2.2.2.2.2)) rfl (st1 := [.int v19.1]) rfl (fun H locs hP hD hS => ?_)
        refine lv_istore_n (lv' := [(3, .int v19.1), (0, .ref q_M), (1, .int x1), (2, .int x2)]) hx hb dX11_compile_35 rfl hl (by decide) rfl (fun ls hl => ?_)
        refine lv_iload_n hx hb dX11_compile_36 rfl (lv_at hl 0 rfl) ?_
        refine lv_iconst (v := 1) hx hb dX11_compile_37 (by decide) ?_
        refine lv_icmp_gt (tgt := 53) hx hb dX11_compile_38 (by decide) (fun h38 => ?_) (fun h38 => ?_)
        · have hg := zp hg h38
          refine lv_iload_n hx hb dX11_compile_53 rfl (lv_at hl 0 rfl) ?_
          exact hret v19.1 v19.2.1 v19.2.2.1 v19.2.2.2.1 a_M_held v19.2.2.2.2.1 v19.2.2.2.2.2 hg _ _ _ _ hP hS dX11_compile_54
        · have hg := zn hg h38
          refine lv_iload_n hx hb dX11_compile_41 rfl (lv_at hl 0 rfl) ?_
          refine lv_iconst (v := 1) hx hb dX11_compile_42 (by decide) ?_
          refine lv_icmp_ne (tgt := 55) hx hb dX11_compile_43 (by decide) (fun h43 => ?_) (fun h43 => ?_)
          · have hg := zn hg h43
            exact B55 (g_X11_compile_26 a_M_now n) ih x1 x2 v19.1 v19.2.1 v19.2.2.1 v19.2.2.2.1 a_M_held v19.2.2.2.2.1 v19.2.2.2.2.2 _ _ _ (lv_sub hl [1, 2, 3, 0] rfl) hP hD hS hg
          · have hg := zp hg h43
            refine lv_aload_n hx hb dX11_compile_46 rfl (lv_at hl 1 rfl) ?_
            refine zget (C := RX11) (T := TX11) (N := 31) S hK hP 0 rfl rfl 16 (Nat.le_of_ble_eq_true rfl) zf_11 zw_595 rfl dX11_compile_47 ?_
            refine lv_if_ne (tgt := 55) hx hb dX11_compile_50 (by decide) (fun h50 => ?_) (fun h50 => ?_)
            · have hg := zn hg h50
              exact B55 (g_X11_compile_26 a_M_now n) ih x1 x2 v19.1 v19.2.1 v19.2.2.1 v19.2.2.2.1 a_M_held v19.2.2.2.2.1 v19.2.2.2.2.2 _ _ _ (lv_sub hl [1, 2, 3, 0] rfl) hP hD hS hg
            · have hg := zp hg h50
              refine lv_iload_n hx hb dX11_compile_53 rfl (lv_at hl 0 rfl) ?_
              exact hret v19.1 v19.2.1 v19.2.2.1 v19.2.2.2.1 a_M_held v19.2.2.2.2.1 v19.2.2.2.2.2 hg _ _ _ _ hP hS dX11_compile_54
  refine lv_aload_n hx hb dX11_compile_0 rfl (lv_at hl 0 rfl) ?_
  refine lv_iconst (v := 0) hx hb dX11_compile_1 (by decide) ?_
  refine zputf (C := RX11) (T := TX11) (N := 31) (ty := .int) S hK hP hD hS 0 rfl rfl 16 (Nat.le_of_ble_eq_true rfl) zf_11 tyX11 tyX11_ok nmX11 zw_595 rfl (by decide +kernel) rfl rfl (Nat.le_of_ble_eq_true rfl) dX11_compile_2 (w2 := (ws_X11_compile cI cJ cZ cA q_M q_M_held q_M_now q_M_wait q_M_act u_M_images u_M_kept u_M_text u_M_size u_M_sign u_M_manyAbove u_M_manyBelow u_M_above u_M_below u_M_refused u_M_at u_M_begin u_M_kind u_M_value u_M_read u_M_heap u_M_clocks u_M_counts u_M_talking u_M_most u_M_hasA u_M_hasB u_M_talks u_M_big 0 v_M_waits v_M_place a_M_held a_M_now a_M_wait a_M_act)) rfl (fun H locs hP hD hS => ?_)
  refine lv_aload_n hx hb dX11_compile_5 rfl (lv_at hl 0 rfl) ?_
  refine lv_iconst (v := 0) hx hb dX11_compile_6 (by decide) ?_
  refine zputf (C := RX11) (T := TX11) (N := 31) (ty := .int) S hK hP hD hS 0 rfl rfl 18 (Nat.le_of_ble_eq_true rfl) zf_11 tyX11 tyX11_ok nmX11 zw_596 rfl (by decide +kernel) rfl rfl (Nat.le_of_ble_eq_true rfl) dX11_compile_7 (w2 := (ws_X11_compile cI cJ cZ cA q_M q_M_held q_M_now q_M_wait q_M_act u_M_images u_M_kept u_M_text u_M_size u_M_sign u_M_manyAbove u_M_manyBelow u_M_above u_M_below u_M_refused u_M_at u_M_begin u_M_kind u_M_value u_M_read u_M_heap u_M_clocks u_M_counts u_M_talking u_M_most u_M_hasA u_M_hasB u_M_talks u_M_big 0 0 v_M_place a_M_held a_M_now a_M_wait a_M_act)) rfl (fun H locs hP hD hS => ?_)
  refine lv_aload_n hx hb dX11_compile_10 rfl (lv_at hl 0 rfl) ?_
  refine lv_iconst (v := 0) hx hb dX11_compile_11 (by decide) ?_
  refine zputf (C := RX11) (T := TX11) (N := 31) (ty := .int) S hK hP hD hS 0 rfl rfl 21 (Nat.le_of_ble_eq_true rfl) zf_11 tyX11 tyX11_ok nmX11 zw_597 rfl (by decide +kernel) rfl rfl (Nat.le_of_ble_eq_true rfl) dX11_compile_12 (w2 := (ws_X11_compile cI cJ cZ cA q_M q_M_held q_M_now q_M_wait q_M_act u_M_images u_M_kept u_M_text u_M_size u_M_sign u_M_manyAbove u_M_manyBelow u_M_above u_M_below u_M_refused u_M_at u_M_begin u_M_kind u_M_value u_M_read u_M_heap u_M_clocks u_M_counts u_M_talking u_M_most u_M_hasA u_M_hasB u_M_talks u_M_big 0 0 0 a_M_held a_M_now a_M_wait a_M_act)) rfl (fun H locs hP hD hS => ?_)
  refine lv_iconst (v := 0) hx hb dX11_compile_15 (by decide) ?_
  refine lv_istore_n (lv' := [(1, .int 0), (0, .ref q_M)]) hx hb dX11_compile_16 rfl hl (by decide) rfl (fun ls hl => ?_)
  refine lv_aload_n hx hb dX11_compile_17 rfl (lv_at hl 1 rfl) ?_
  refine zget (C := RX11) (T := TX11) (N := 31) S hK hP 0 rfl rfl 20 (Nat.le_of_ble_eq_true rfl) zf_11 zw_160 rfl dX11_compile_18 ?_
  refine lv_iconst (v := 0) hx hb dX11_compile_21 (by decide) ?_
  refine lv_iconst (v := 0) hx hb dX11_compile_22 (by decide) ?_
  refine zzast hx hb hK hP hD hS 1 2 rfl rfl (j := 0) (y := 0) rfl (zin (by decide)) (by decide) dX11_compile_23 (w2 := (ws_X11_compile cI cJ cZ cA q_M q_M_held q_M_now q_M_wait q_M_act u_M_images u_M_kept u_M_text u_M_size u_M_sign u_M_manyAbove u_M_manyBelow u_M_above u_M_below u_M_refused u_M_at u_M_begin u_M_kind u_M_value u_M_read u_M_heap u_M_clocks u_M_counts u_M_talking u_M_most u_M_hasA u_M_hasB u_M_talks u_M_big 0 0 0 (upd a_M_held 0 0) a_M_now a_M_wait a_M_act)) rfl (fun H locs hP hD hS => ?_)
  refine lv_iconst (v := 1) hx hb dX11_compile_24 (by decide) ?_
  refine lv_istore_n (lv' := [(2, .int 1), (1, .int 0), (0, .ref q_M)]) hx hb dX11_compile_25 rfl hl (by decide) rfl (fun ls hl => ?_)
  exact B26 zF 0 1 0 0 0 (upd a_M_held 0 0) a_M_wait a_M_act _ _ _ (lv_sub hl [2, 1, 0] rfl) hP hD hS hg

/-! SpokenClockModel.fault()I -/
abbrev ws_X11_fault (cI cJ cZ cA : ClassId) (q_M q_M_held q_M_now q_M_wait q_M_act : Nat) (u_M_images : Value) (u_M_kept : Value) (u_M_text : Value) (u_M_size : Value) (u_M_sign : Value) (u_M_manyAbove : Value) (u_M_manyBelow : Value) (u_M_above : Value) (u_M_below : Value) (u_M_refused : Value) (u_M_at : Value) (u_M_begin : Value) (u_M_kind : Value) (u_M_value : Value) (u_M_read : Value) (u_M_heap : Value) (u_M_clocks : Value) (u_M_counts : Value) (u_M_talking : Value) (u_M_most : Value) (u_M_hasA : Value) (u_M_hasB : Value) (u_M_talks : Value) (u_M_big : Value) (v_M_acts : Int32) (v_M_waits : Int32) (v_M_place : Int32) (a_M_held : Nat → Int32) (a_M_now : Nat → Int32) (a_M_wait : Nat → Int32) (a_M_act : Nat → Int32) : va_W := [(q_M, .inr (11, [.ref q_M_now, u_M_images, u_M_kept, u_M_text, u_M_size, u_M_sign, u_M_manyAbove, u_M_manyBelow, u_M_above, u_M_below, u_M_refused, u_M_at, u_M_begin, u_M_kind, u_M_value, u_M_read, .int v_M_acts, .ref q_M_act, .int v_M_waits, .ref q_M_wait, .ref q_M_held, .int v_M_place, u_M_heap, u_M_clocks, u_M_counts, u_M_talking, u_M_most, u_M_hasA, u_M_hasB, u_M_talks, u_M_big])), (q_M_held, .inl (cZ, 9, .inl a_M_held)), (q_M_now, .inl (cI, 155, .inl a_M_now)), (q_M_wait, .inl (cI, 80, .inl a_M_wait)), (q_M_act, .inl (cI, 80, .inl a_M_act))]
abbrev rm_X11_fault : Room := { frames := 4, cells := 0, slots := 0, locals := 93 }
def g_X11_fault (a_M_now : Nat → Int32) (v_M_acts : Int32) (v_M_waits : Int32) (v_M_place : Int32) (a_M_held : Nat → Int32) (a_M_wait : Nat → Int32) (a_M_act : Nat → Int32) : Option (Int32 × Int32 × Int32 × Int32 × (Nat → Int32) × (Nat → Int32) × (Nat → Int32)) :=
  (g_X11_compile a_M_now v_M_acts v_M_waits v_M_place a_M_held a_M_wait a_M_act).bind fun v1 =>
  some (v1.1, v1.2.1, v1.2.2.1, v1.2.2.2.1, v1.2.2.2.2.1, v1.2.2.2.2.2.1, v1.2.2.2.2.2.2)
theorem hd_X11_fault : yX11_fault.cls = RX11 ∧ yX11_fault.cls ≠ "java/lang/invoke/MethodHandle" ∧ yX11_fault.cls ≠ "java/lang/invoke/VarHandle" ∧ (parseMethodDescriptor yX11_fault.desc).map (fun d => d.parameters.length) = some 0 := by decide +kernel
set_option maxHeartbeats 4000000 in
set_option maxRecDepth 100000 in
theorem c_X11_fault (l : Launch) (D : va_G) (cI cJ cZ cA : ClassId) (ga : Nat → Nat) (q_M q_M_held q_M_now q_M_wait q_M_act : Nat) (u_M_images : Value) (u_M_kept : Value) (u_M_text : Value) (u_M_size : Value) (u_M_sign : Value) (u_M_manyAbove : Value) (u_M_manyBelow : Value) (u_M_above : Value) (u_M_below : Value) (u_M_refused : Value) (u_M_at : Value) (u_M_begin : Value) (u_M_kind : Value) (u_M_value : Value) (u_M_read : Value) (u_M_heap : Value) (u_M_clocks : Value) (u_M_counts : Value) (u_M_talking : Value) (u_M_most : Value) (u_M_hasA : Value) (u_M_hasB : Value) (u_M_talks : Value) (u_M_big : Value) (v_M_acts : Int32) (v_M_waits : Int32) (v_M_place : Int32) (a_M_held : Nat → Int32) (a_M_now : Nat → Int32) (a_M_wait : Nat → Int32) (a_M_act : Nat → Int32) (o : Int32 × Int32 × Int32 × Int32 × (Nat → Int32) × (Nat → Int32) × (Nat → Int32)) (hg : g_X11_fault a_M_now v_M_acts v_M_waits v_M_place a_M_held a_M_wait a_M_act = some o) : zM l yX11_fault (Cond.code yX11_fault cX11_fault 1 (some .int) :: wsL_law) rm_X11_fault D (zTy cI cJ cZ cA) ga [.ref q_M] (ws_X11_fault cI cJ cZ cA q_M q_M_held q_M_now q_M_wait q_M_act u_M_images u_M_kept u_M_text u_M_size u_M_sign u_M_manyAbove u_M_manyBelow u_M_above u_M_below u_M_refused u_M_at u_M_begin u_M_kind u_M_value u_M_read u_M_heap u_M_clocks u_M_counts u_M_talking u_M_most u_M_hasA u_M_hasB u_M_talks u_M_big v_M_acts v_M_waits v_M_place a_M_held a_M_now a_M_wait a_M_act) (ws_X11_fault cI cJ cZ cA q_M q_M_held q_M_now q_M_wait q_M_act u_M_images u_M_kept u_M_text u_M_size u_M_sign u_M_manyAbove u_M_manyBelow u_M_above u_M_below u_M_refused u_M_at u_M_begin u_M_kind u_M_value u_M_read u_M_heap u_M_clocks u_M_counts u_M_talking u_M_most u_M_hasA u_M_hasB u_M_talks u_M_big o.2.1 o.2.2.1 o.2.2.2.1 o.2.2.2.2.1 a_M_now o.2.2.2.2.2.1 o.2.2.2.2.2.2) (some (.int o.1)) := by
  refine zenterI (own := RX11) (by decide) rfl rfl (Nat.le_of_ble_eq_true rfl) ?_
  intro p e s m args below meth c A ls Q S hA hK hG hl hP hD hS hret0
  have hx := S.1
  have hb := S.2.1
  have ht : ∀ w, w ∈ wsL_law → w.before args s = true := fun w h => S.2.2.2.2 w (List.mem_cons_of_mem _ h)
  have hret : ∀ (r9 : Int32) (v_M_acts : Int32) (v_M_waits : Int32) (v_M_place : Int32) (a_M_held : Nat → Int32) (a_M_wait : Nat → Int32) (a_M_act : Nat → Int32), (some (r9, v_M_acts, v_M_waits, v_M_place, a_M_held, a_M_wait, a_M_act) : Option (Int32 × Int32 × Int32 × Int32 × (Nat → Int32) × (Nat → Int32) × (Nat → Int32))) = some o → ∀ (H : Heap) (locs : List Loc) (pc : Nat) (ls : Array Slot), va_P D vwCl (ws_X11_fault cI cJ cZ cA q_M q_M_held q_M_now q_M_wait q_M_act u_M_images u_M_kept u_M_text u_M_size u_M_sign u_M_manyAbove u_M_manyBelow u_M_above u_M_below u_M_refused u_M_at u_M_begin u_M_kind u_M_value u_M_read u_M_heap u_M_clocks u_M_counts u_M_talking u_M_most u_M_hasA u_M_hasB u_M_talks u_M_big v_M_acts v_M_waits v_M_place a_M_held a_M_now a_M_wait a_M_act) H → va_S A s.heap H locs → decode cX11_fault pc = .ok (.ireturn, 1) → W p l e rm_X11_fault s m args below meth c H locs 0 0 Q (F0 m pc ls [.int r9]) := by
    intro r9 v_M_acts v_M_waits v_M_place a_M_held a_M_wait a_M_act he; cases he; exact hret0
  have hl : lv_has ls 1 [(0, .ref q_M)] := hl
  refine lv_aload_n hx hb dX11_fault_0 rfl (lv_at hl 0 rfl) ?_
  obtain ⟨v1, hc2, hg⟩ := zbd hg
  refine zcallV (rest := []) S (c_X11_compile l D cI cJ cZ cA ga q_M q_M_held q_M_now q_M_wait q_M_act u_M_images u_M_kept u_M_text u_M_size u_M_sign u_M_manyAbove u_M_manyBelow u_M_above u_M_below u_M_refused u_M_at u_M_begin u_M_kind u_M_value u_M_read u_M_heap u_M_clocks u_M_counts u_M_talking u_M_most u_M_hasA u_M_hasB u_M_talks u_M_big v_M_acts v_M_waits v_M_place a_M_held a_M_now a_M_wait a_M_act v1 hc2) (zgV zw_591 zw_592 zw_593 zw_5 zw_594) rfl hd_X11_compile ⟨rfl, rfl⟩ ⟨Nat.le_of_ble_eq_true rfl, Nat.le_of_ble_eq_true rfl⟩ 0 11 rfl rfl rfl hl.1 rfl (Nat.le_of_ble_eq_true rfl) dX11_fault_1 hP hD hS hA hK hG (isC := [0, 1, 2, 3, 4]) rfl (by decide +kernel) rfl ⟨Nat.zero_le _, Nat.zero_le _⟩ (pl := [some 0, some 1, some 2, some 3, some 4]) (nw := 5) rfl (by decide +kernel) (w2 := (ws_X11_fault cI cJ cZ cA q_M q_M_held q_M_now q_M_wait q_M_act u_M_images u_M_kept u_M_text u_M_size u_M_sign u_M_manyAbove u_M_manyBelow u_M_above u_M_below u_M_refused u_M_at u_M_begin u_M_kind u_M_value u_M_read u_M_heap u_M_clocks u_M_counts u_M_talking u_M_most u_M_hasA u_M_hasB u_M_talks u_M_big v1.2.1 v1.2.2.1 v1.2.2.2.1 v1.2.2.2.2.1 a_M_now v1.2.2.2.2.2.1 v1.2.2.2.2.2.2)) rfl (st1 := [.int v1.1]) rfl (fun H locs hP hD hS => ?_)
  exact hret v1.1 v1.2.1 v1.2.2.1 v1.2.2.2.1 v1.2.2.2.2.1 v1.2.2.2.2.2.1 v1.2.2.2.2.2.2 hg _ _ _ _ hP hS dX11_fault_4

/-! SpokenClockModel.worked(IJJ)J -/
abbrev ws_X11_worked (cI cJ cZ cA : ClassId) : va_W := []
abbrev rm_X11_worked : Room := { frames := 0, cells := 0, slots := 0, locals := 0 }
def g_X11_worked_88 (x0 : Int32) (x1 : Int64) (x3 : Int64) : Option (Int64) :=
  some ((1 : Int64))
def g_X11_worked (x0 : Int32) (x1 : Int64) (x3 : Int64) : Option (Int64) :=
  if x0 = 38 then (
    if (lg_cmp x1 (0 : Int64)) = 0 then (
      some ((0 : Int64))
    ) else (
      if (lg_cmp x3 (0 : Int64)) = 0 then (
        some ((0 : Int64))
      ) else (
        some ((1 : Int64))
      )
    )
  ) else
  if x0 = 42 then (
    some (x1 * x3)
  ) else
  if x0 = 43 then (
    some (x1 + x3)
  ) else
  if x0 = 45 then (
    some (x1 - x3)
  ) else
  if x0 = 60 then (
    if 0 ≤ (lg_cmp x1 x3) then (
      some ((0 : Int64))
    ) else (
      some ((1 : Int64))
    )
  ) else
  if x0 = 61 then (
    if (lg_cmp x1 x3) = 0 then (
      some ((1 : Int64))
    ) else (
      some ((0 : Int64))
    )
  ) else
  if x0 = 62 then (
    if (lg_cmp x1 x3) ≤ 0 then (
      some ((0 : Int64))
    ) else (
      some ((1 : Int64))
    )
  ) else
  if x0 = 124 then (
    if (lg_cmp x1 (0 : Int64)) = 0 then (
      if (lg_cmp x3 (0 : Int64)) = 0 then (
        some ((0 : Int64))
      ) else (
        g_X11_worked_88 x0 x1 x3
      )
    ) else (
      g_X11_worked_88 x0 x1 x3
    )
  ) else
  (
    if (lg_cmp x3 (0 : Int64)) = 0 then (
      some ((0 : Int64))
    ) else (
      if x3 = 0 then none else
      some (x1 / x3)
    )
  )
theorem hd_X11_worked : yX11_worked.cls ≠ "java/lang/invoke/MethodHandle" ∧ yX11_worked.cls ≠ "java/lang/invoke/VarHandle" ∧ (parseMethodDescriptor yX11_worked.desc).map (fun d => d.parameters.length) = some 3 := by decide +kernel
set_option maxHeartbeats 4000000 in
set_option maxRecDepth 100000 in
theorem c_X11_worked (l : Launch) (D : va_G) (cI cJ cZ cA : ClassId) (ga : Nat → Nat) (x0 : Int32) (x1 : Int64) (x3 : Int64) (o : Int64) (hg : g_X11_worked x0 x1 x3 = some o) : zM l yX11_worked (Cond.code yX11_worked cX11_worked 5 (some .long) :: wsL_law) rm_X11_worked D (zTy cI cJ cZ cA) ga [.int x0, .long x1, .long x3] (ws_X11_worked cI cJ cZ cA) (ws_X11_worked cI cJ cZ cA) (some (.long o)) := by
  refine zenterL (own := RX11) (by decide) rfl rfl (Nat.le_of_ble_eq_true rfl) ?_
  intro p e s m args below meth c A ls Q S hA hK hG hl hP hD hS hret0
  have hx := S.1
  have hb := S.2.1
  have ht : ∀ w, w ∈ wsL_law → w.before args s = true := fun w h => S.2.2.2.2 w (List.mem_cons_of_mem _ h)
  have hret : ∀ (r9 : Int64), (some (r9) : Option (Int64)) = some o → ∀ (H : Heap) (locs : List Loc) (pc : Nat) (ls : Array Slot), va_P D vwCl (ws_X11_worked cI cJ cZ cA) H → va_S A s.heap H locs → decode cX11_worked pc = .ok (.lreturn, 1) → W p l e rm_X11_worked s m args below meth c H locs 0 0 Q (F0 m pc ls [.long r9]) := by
    intro r9 he; cases he; exact hret0
  have hl : lv_has ls 5 [(0, .int x0), (1, .long x1), (3, .long x3)] := hl
  have B88 : ∀  (H : Heap) (locs : List Loc) (ls : Array Slot) (hl : lv_has ls 5 []) (hP : va_P D vwCl (ws_X11_worked cI cJ cZ cA) H) (hD : va_D A (ws_X11_worked cI cJ cZ cA)) (hS : va_S A s.heap H locs), g_X11_worked_88 x0 x1 x3 = some o → W p l e rm_X11_worked s m args below meth c H locs 0 0 Q (F0 m 88 ls []) := by
    intro   H locs ls hl hP hD hS hg
    refine lv_lconst (v := 1) hx hb dX11_worked_88 (by decide) ?_
    refine lv_goto (tgt := 93) hx hb dX11_worked_89 (by decide) ?_
    exact hret (1 : Int64) hg _ _ _ _ hP hS dX11_worked_93
  refine lv_iload_n hx hb dX11_worked_0 rfl (lv_at hl 0 rfl) ?_
  by_cases h1_38 : x0 = 38
  · have hg := zp hg h1_38
    refine lv_lookup (off := 93) (tgt := 94) hx hb dX11_worked_1 (by decide) (by rw [h1_38]; decide) (by decide) ?_
    refine lv_lload_n hx hb dX11_worked_94 rfl (lv_at hl 1 rfl) ?_
    refine lv_lconst (v := 0) hx hb dX11_worked_95 (by decide) ?_
    refine W.lcmp hx hb dX11_worked_96 ?_
    refine lv_if_eq (tgt := 110) hx hb dX11_worked_97 (by decide) (fun h97 => ?_) (fun h97 => ?_)
    · have hg := zp hg h97
      refine lv_lconst (v := 0) hx hb dX11_worked_110 (by decide) ?_
      exact hret (0 : Int64) hg _ _ _ _ hP hS dX11_worked_111
    · have hg := zn hg h97
      refine lv_lload_n hx hb dX11_worked_100 rfl (lv_at hl 2 rfl) ?_
      refine lv_lconst (v := 0) hx hb dX11_worked_101 (by decide) ?_
      refine W.lcmp hx hb dX11_worked_102 ?_
      refine lv_if_eq (tgt := 110) hx hb dX11_worked_103 (by decide) (fun h103 => ?_) (fun h103 => ?_)
      · have hg := zp hg h103
        refine lv_lconst (v := 0) hx hb dX11_worked_110 (by decide) ?_
        exact hret (0 : Int64) hg _ _ _ _ hP hS dX11_worked_111
      · have hg := zn hg h103
        refine lv_lconst (v := 1) hx hb dX11_worked_106 (by decide) ?_
        refine lv_goto (tgt := 111) hx hb dX11_worked_107 (by decide) ?_
        exact hret (1 : Int64) hg _ _ _ _ hP hS dX11_worked_111
  · have hg := zn hg h1_38
    by_cases h1_42 : x0 = 42
    · have hg := zp hg h1_42
      refine lv_lookup (off := 155) (tgt := 156) hx hb dX11_worked_1 (by decide) (by rw [h1_42]; decide) (by decide) ?_
      refine lv_lload_n hx hb dX11_worked_156 rfl (lv_at hl 1 rfl) ?_
      refine lv_lload_n hx hb dX11_worked_157 rfl (lv_at hl 2 rfl) ?_
      refine lv_lmul hx hb dX11_worked_158 ?_
      exact hret (x1 * x3) hg _ _ _ _ hP hS dX11_worked_159
    · have hg := zn hg h1_42
      by_cases h1_43 : x0 = 43
      · have hg := zp hg h1_43
        refine lv_lookup (off := 147) (tgt := 148) hx hb dX11_worked_1 (by decide) (by rw [h1_43]; decide) (by decide) ?_
        refine lv_lload_n hx hb dX11_worked_148 rfl (lv_at hl 1 rfl) ?_
        refine lv_lload_n hx hb dX11_worked_149 rfl (lv_at hl 2 rfl) ?_
        refine lv_ladd hx hb dX11_worked_150 ?_
        exact hret (x1 + x3) hg _ _ _ _ hP hS dX11_worked_151
      · have hg := zn hg h1_43
        by_cases h1_45 : x0 = 45
        · have hg := zp hg h1_45
          refine lv_lookup (off := 151) (tgt := 152) hx hb dX11_worked_1 (by decide) (by rw [h1_45]; decide) (by decide) ?_
          refine lv_lload_n hx hb dX11_worked_152 rfl (lv_at hl 1 rfl) ?_
          refine lv_lload_n hx hb dX11_worked_153 rfl (lv_at hl 2 rfl) ?_
          refine lv_lsub hx hb dX11_worked_154 ?_
          exact hret (x1 - x3) hg _ _ _ _ hP hS dX11_worked_155
        · have hg := zn hg h1_45
          by_cases h1_60 : x0 = 60
          · have hg := zp hg h1_60
            refine lv_lookup (off := 111) (tgt := 112) hx hb dX11_worked_1 (by decide) (by rw [h1_60]; decide) (by decide) ?_
            refine lv_lload_n hx hb dX11_worked_112 rfl (lv_at hl 1 rfl) ?_
            refine lv_lload_n hx hb dX11_worked_113 rfl (lv_at hl 2 rfl) ?_
            refine W.lcmp hx hb dX11_worked_114 ?_
            refine lv_if_ge (tgt := 122) hx hb dX11_worked_115 (by decide) (fun h115 => ?_) (fun h115 => ?_)
            · have hg := zp hg h115
              refine lv_lconst (v := 0) hx hb dX11_worked_122 (by decide) ?_
              exact hret (0 : Int64) hg _ _ _ _ hP hS dX11_worked_123
            · have hg := zn hg h115
              refine lv_lconst (v := 1) hx hb dX11_worked_118 (by decide) ?_
              refine lv_goto (tgt := 123) hx hb dX11_worked_119 (by decide) ?_
              exact hret (1 : Int64) hg _ _ _ _ hP hS dX11_worked_123
          · have hg := zn hg h1_60
            by_cases h1_61 : x0 = 61
            · have hg := zp hg h1_61
              refine lv_lookup (off := 135) (tgt := 136) hx hb dX11_worked_1 (by decide) (by rw [h1_61]; decide) (by decide) ?_
              refine lv_lload_n hx hb dX11_worked_136 rfl (lv_at hl 1 rfl) ?_
              refine lv_lload_n hx hb dX11_worked_137 rfl (lv_at hl 2 rfl) ?_
              refine W.lcmp hx hb dX11_worked_138 ?_
              refine lv_if_ne (tgt := 146) hx hb dX11_worked_139 (by decide) (fun h139 => ?_) (fun h139 => ?_)
              · have hg := zn hg h139
                refine lv_lconst (v := 0) hx hb dX11_worked_146 (by decide) ?_
                exact hret (0 : Int64) hg _ _ _ _ hP hS dX11_worked_147
              · have hg := zp hg h139
                refine lv_lconst (v := 1) hx hb dX11_worked_142 (by decide) ?_
                refine lv_goto (tgt := 147) hx hb dX11_worked_143 (by decide) ?_
                exact hret (1 : Int64) hg _ _ _ _ hP hS dX11_worked_147
            · have hg := zn hg h1_61
              by_cases h1_62 : x0 = 62
              · have hg := zp hg h1_62
                refine lv_lookup (off := 123) (tgt := 124) hx hb dX11_worked_1 (by decide) (by rw [h1_62]; decide) (by decide) ?_
                refine lv_lload_n hx hb dX11_worked_124 rfl (lv_at hl 1 rfl) ?_
                refine lv_lload_n hx hb dX11_worked_125 rfl (lv_at hl 2 rfl) ?_
                refine W.lcmp hx hb dX11_worked_126 ?_
                refine lv_if_le (tgt := 134) hx hb dX11_worked_127 (by decide) (fun h127 => ?_) (fun h127 => ?_)
                · have hg := zp hg h127
                  refine lv_lconst (v := 0) hx hb dX11_worked_134 (by decide) ?_
                  exact hret (0 : Int64) hg _ _ _ _ hP hS dX11_worked_135
                · have hg := zn hg h127
                  refine lv_lconst (v := 1) hx hb dX11_worked_130 (by decide) ?_
                  refine lv_goto (tgt := 135) hx hb dX11_worked_131 (by decide) ?_
                  exact hret (1 : Int64) hg _ _ _ _ hP hS dX11_worked_135
              · have hg := zn hg h1_62
                by_cases h1_124 : x0 = 124
                · have hg := zp hg h1_124
                  refine lv_lookup (off := 75) (tgt := 76) hx hb dX11_worked_1 (by decide) (by rw [h1_124]; decide) (by decide) ?_
                  refine lv_lload_n hx hb dX11_worked_76 rfl (lv_at hl 1 rfl) ?_
                  refine lv_lconst (v := 0) hx hb dX11_worked_77 (by decide) ?_
                  refine W.lcmp hx hb dX11_worked_78 ?_
                  refine lv_if_ne (tgt := 88) hx hb dX11_worked_79 (by decide) (fun h79 => ?_) (fun h79 => ?_)
                  · have hg := zn hg h79
                    exact B88  _ _ _ (lv_sub hl [] rfl) hP hD hS hg
                  · have hg := zp hg h79
                    refine lv_lload_n hx hb dX11_worked_82 rfl (lv_at hl 2 rfl) ?_
                    refine lv_lconst (v := 0) hx hb dX11_worked_83 (by decide) ?_
                    refine W.lcmp hx hb dX11_worked_84 ?_
                    refine lv_if_eq (tgt := 92) hx hb dX11_worked_85 (by decide) (fun h85 => ?_) (fun h85 => ?_)
                    · have hg := zp hg h85
                      refine lv_lconst (v := 0) hx hb dX11_worked_92 (by decide) ?_
                      exact hret (0 : Int64) hg _ _ _ _ hP hS dX11_worked_93
                    · have hg := zn hg h85
                      exact B88  _ _ _ (lv_sub hl [] rfl) hP hD hS hg
                · have hg := zn hg h1_124
                  refine lv_lookup (off := 159) (tgt := 160) hx hb dX11_worked_1 (by decide) ((lv_osw h1_38 (by decide)).trans ((lv_osw h1_42 (by decide)).trans ((lv_osw h1_43 (by decide)).trans ((lv_osw h1_45 (by decide)).trans ((lv_osw h1_60 (by decide)).trans ((lv_osw h1_61 (by decide)).trans ((lv_osw h1_62 (by decide)).trans ((lv_osw h1_124 (by decide)).trans (rfl))))))))) (by decide) ?_
                  refine lv_lload_n hx hb dX11_worked_160 rfl (lv_at hl 2 rfl) ?_
                  refine lv_lconst (v := 0) hx hb dX11_worked_161 (by decide) ?_
                  refine W.lcmp hx hb dX11_worked_162 ?_
                  refine lv_if_ne (tgt := 170) hx hb dX11_worked_163 (by decide) (fun h163 => ?_) (fun h163 => ?_)
                  · have hg := zn hg h163
                    refine lv_lload_n hx hb dX11_worked_170 rfl (lv_at hl 1 rfl) ?_
                    refine lv_lload_n hx hb dX11_worked_171 rfl (lv_at hl 2 rfl) ?_
                    obtain ⟨h1, hg⟩ := zck hg
                    refine lv_ldiv hx hb dX11_worked_172 h1 ?_
                    exact hret (x1 / x3) hg _ _ _ _ hP hS dX11_worked_173
                  · have hg := zp hg h163
                    refine lv_lconst (v := 0) hx hb dX11_worked_166 (by decide) ?_
                    refine lv_goto (tgt := 173) hx hb dX11_worked_167 (by decide) ?_
                    exact hret (0 : Int64) hg _ _ _ _ hP hS dX11_worked_173

/-! SpokenClockModel.tells(IIII)J -/
abbrev ws_X11_tells (cI cJ cZ cA : ClassId) (q_M q_M_heap q_M_act q_M_now : Nat) (u_M_images : Value) (u_M_kept : Value) (u_M_text : Value) (u_M_size : Value) (u_M_sign : Value) (u_M_manyAbove : Value) (u_M_manyBelow : Value) (u_M_above : Value) (u_M_below : Value) (u_M_refused : Value) (u_M_at : Value) (u_M_begin : Value) (u_M_kind : Value) (u_M_value : Value) (u_M_read : Value) (u_M_waits : Value) (u_M_wait : Value) (u_M_held : Value) (u_M_place : Value) (u_M_clocks : Value) (u_M_counts : Value) (u_M_talking : Value) (u_M_most : Value) (u_M_hasA : Value) (u_M_hasB : Value) (u_M_talks : Value) (u_M_big : Value) (v_M_acts : Int32) (a_M_heap : Nat → Int64) (a_M_act : Nat → Int32) (a_M_now : Nat → Int32) : va_W := [(q_M, .inr (11, [.ref q_M_now, u_M_images, u_M_kept, u_M_text, u_M_size, u_M_sign, u_M_manyAbove, u_M_manyBelow, u_M_above, u_M_below, u_M_refused, u_M_at, u_M_begin, u_M_kind, u_M_value, u_M_read, .int v_M_acts, .ref q_M_act, u_M_waits, u_M_wait, u_M_held, u_M_place, .ref q_M_heap, u_M_clocks, u_M_counts, u_M_talking, u_M_most, u_M_hasA, u_M_hasB, u_M_talks, u_M_big])), (q_M_heap, .inl (cJ, 41, .inr (.inl a_M_heap))), (q_M_act, .inl (cI, 80, .inl a_M_act)), (q_M_now, .inl (cI, 155, .inl a_M_now))]
abbrev rm_X11_tells : Room := { frames := 1, cells := 0, slots := 0, locals := 24 }
def g_X11_tells_241 (v_M_acts : Int32) (a_M_act : Nat → Int32) (a_M_now : Nat → Int32) (x1 : Int32) (x2 : Int32) (x3 : Int32) (x4 : Int32) (k6 : Int32 → Int32 → (Nat → Int64) → Option (Int64 × (Nat → Int64))) (x5 : Int32) (x6 : Int32) (a_M_heap : Nat → Int64) : Option (Int64 × (Nat → Int64)) :=
  k6 x5 (x6 + 1) a_M_heap
def g_X11_tells_174 (v_M_acts : Int32) (a_M_act : Nat → Int32) (a_M_now : Nat → Int32) (x1 : Int32) (x2 : Int32) (x3 : Int32) (x4 : Int32) (k6 : Int32 → Int32 → (Nat → Int64) → Option (Int64 × (Nat → Int64))) (x5 : Int32) (x6 : Int32) (t1 : Int32) (t2 : Int64) (a_M_heap : Nat → Int64) : Option (Int64 × (Nat → Int64)) :=
  if t1 < 0 ∨ 41 ≤ t1.toNatClampNeg then none else
  g_X11_tells_241 v_M_acts a_M_act a_M_now x1 x2 x3 x4 k6 x5 x6 (vp_updL a_M_heap (t1.toNatClampNeg) t2)
def g_X11_tells_133 (v_M_acts : Int32) (a_M_act : Nat → Int32) (a_M_now : Nat → Int32) (x1 : Int32) (x2 : Int32) (x3 : Int32) (x4 : Int32) (k6 : Int32 → Int32 → (Nat → Int64) → Option (Int64 × (Nat → Int64))) (x5 : Int32) (x6 : Int32) (t1 : Int32) (t2 : Int64) (a_M_heap : Nat → Int64) : Option (Int64 × (Nat → Int64)) :=
  if t1 < 0 ∨ 41 ≤ t1.toNatClampNeg then none else
  g_X11_tells_241 v_M_acts a_M_act a_M_now x1 x2 x3 x4 k6 (x5 + 1) x6 (vp_updL a_M_heap (t1.toNatClampNeg) t2)
def g_X11_tells_6b (v_M_acts : Int32) (a_M_act : Nat → Int32) (a_M_now : Nat → Int32) (x1 : Int32) (x2 : Int32) (x3 : Int32) (x4 : Int32) (k6 : Int32 → Int32 → (Nat → Int64) → Option (Int64 × (Nat → Int64))) (x5 : Int32) (x6 : Int32) (a_M_heap : Nat → Int64) : Option (Int64 × (Nat → Int64)) :=
  if v_M_acts ≤ x6 then (
    some (a_M_heap 0, a_M_heap)
  ) else (
    if x6 < 0 ∨ 80 ≤ x6.toNatClampNeg then none else
    if (a_M_act (x6.toNatClampNeg)) < 0 then (
      (g_X11_isName (-(a_M_act (x6.toNatClampNeg)))).bind fun v2 =>
      if v2 = 0 then (
        if (a_M_act (x6.toNatClampNeg)) = (-33) then (
          if (x5 - 1) < 0 ∨ 41 ≤ (x5 - 1).toNatClampNeg then none else
          if (lg_cmp (a_M_heap ((x5 - 1).toNatClampNeg)) (0 : Int64)) = 0 then (
            g_X11_tells_174 v_M_acts a_M_act a_M_now x1 x2 x3 x4 k6 x5 x6 (x5 - 1) (1 : Int64) a_M_heap
          ) else (
            g_X11_tells_174 v_M_acts a_M_act a_M_now x1 x2 x3 x4 k6 x5 x6 (x5 - 1) (0 : Int64) a_M_heap
          )
        ) else (
          if (a_M_act (x6.toNatClampNeg)) = (-126) then (
            if (x5 - 1) < 0 ∨ 41 ≤ (x5 - 1).toNatClampNeg then none else
            if (x5 - 1) < 0 ∨ 41 ≤ (x5 - 1).toNatClampNeg then none else
            g_X11_tells_241 v_M_acts a_M_act a_M_now x1 x2 x3 x4 k6 x5 x6 (vp_updL a_M_heap ((x5 - 1).toNatClampNeg) (-(a_M_heap ((x5 - 1).toNatClampNeg))))
          ) else (
            if ((x5 + (-1)) - 1) < 0 ∨ 41 ≤ ((x5 + (-1)) - 1).toNatClampNeg then none else
            if (x5 + (-1)) < 0 ∨ 41 ≤ (x5 + (-1)).toNatClampNeg then none else
            (g_X11_worked (-(a_M_act (x6.toNatClampNeg))) (a_M_heap (((x5 + (-1)) - 1).toNatClampNeg)) (a_M_heap ((x5 + (-1)).toNatClampNeg))).bind fun v6 =>
            if ((x5 + (-1)) - 1) < 0 ∨ 41 ≤ ((x5 + (-1)) - 1).toNatClampNeg then none else
            g_X11_tells_241 v_M_acts a_M_act a_M_now x1 x2 x3 x4 k6 (x5 + (-1)) x6 (vp_updL a_M_heap (((x5 + (-1)) - 1).toNatClampNeg) v6)
          )
        )
      ) else (
        if (a_M_act (x6.toNatClampNeg)) = (-99) then (
          g_X11_tells_133 v_M_acts a_M_act a_M_now x1 x2 x3 x4 k6 x5 x6 x5 x1.toInt64 a_M_heap
        ) else (
          if (a_M_act (x6.toNatClampNeg)) = (-115) then (
            g_X11_tells_133 v_M_acts a_M_act a_M_now x1 x2 x3 x4 k6 x5 x6 x5 x2.toInt64 a_M_heap
          ) else (
            if (a_M_act (x6.toNatClampNeg)) = (-111) then (
              g_X11_tells_133 v_M_acts a_M_act a_M_now x1 x2 x3 x4 k6 x5 x6 x5 x3.toInt64 a_M_heap
            ) else (
              if (a_M_act (x6.toNatClampNeg)) = (-112) then (
                g_X11_tells_133 v_M_acts a_M_act a_M_now x1 x2 x3 x4 k6 x5 x6 x5 x4.toInt64 a_M_heap
              ) else (
                if (a_M_act (x6.toNatClampNeg)) = (-98) then (
                  g_X11_tells_133 v_M_acts a_M_act a_M_now x1 x2 x3 x4 k6 x5 x6 x5 ((a_M_now 2).toInt64) a_M_heap
                ) else (
                  g_X11_tells_133 v_M_acts a_M_act a_M_now x1 x2 x3 x4 k6 x5 x6 x5 ((a_M_now 0).toInt64) a_M_heap
                )
              )
            )
          )
        )
      )
    ) else (
      if x5 < 0 ∨ 41 ≤ x5.toNatClampNeg then none else
      g_X11_tells_241 v_M_acts a_M_act a_M_now x1 x2 x3 x4 k6 (x5 + 1) x6 (vp_updL a_M_heap (x5.toNatClampNeg) ((a_M_act (x6.toNatClampNeg)).toInt64))
    )
  )
def g_X11_tells_6 (v_M_acts : Int32) (a_M_act : Nat → Int32) (a_M_now : Nat → Int32) (x1 : Int32) (x2 : Int32) (x3 : Int32) (x4 : Int32) : Nat → Int32 → Int32 → (Nat → Int64) → Option (Int64 × (Nat → Int64))
  | 0, _, _, _ => none
  | n + 1, x5, x6, a_M_heap => g_X11_tells_6b v_M_acts a_M_act a_M_now x1 x2 x3 x4 (g_X11_tells_6 v_M_acts a_M_act a_M_now x1 x2 x3 x4 n) x5 x6 a_M_heap
def g_X11_tells (v_M_acts : Int32) (a_M_act : Nat → Int32) (a_M_now : Nat → Int32) (x1 : Int32) (x2 : Int32) (x3 : Int32) (x4 : Int32) (a_M_heap : Nat → Int64) : Option (Int64 × (Nat → Int64)) :=
  g_X11_tells_6 v_M_acts a_M_act a_M_now x1 x2 x3 x4 zF 0 0 a_M_heap
theorem hd_X11_tells : yX11_tells.cls = RX11 ∧ yX11_tells.cls ≠ "java/lang/invoke/MethodHandle" ∧ yX11_tells.cls ≠ "java/lang/invoke/VarHandle" ∧ (parseMethodDescriptor yX11_tells.desc).map (fun d => d.parameters.length) = some 4 := by decide +kernel
set_option maxHeartbeats 4000000 in
set_option maxRecDepth 100000 in
theorem c_X11_tells (l : Launch) (D : va_G) (cI cJ cZ cA : ClassId) (ga : Nat → Nat) (q_M q_M_heap q_M_act q_M_now : Nat) (u_M_images : Value) (u_M_kept : Value) (u_M_text : Value) (u_M_size : Value) (u_M_sign : Value) (u_M_manyAbove : Value) (u_M_manyBelow : Value) (u_M_above : Value) (u_M_below : Value) (u_M_refused : Value) (u_M_at : Value) (u_M_begin : Value) (u_M_kind : Value) (u_M_value : Value) (u_M_read : Value) (u_M_waits : Value) (u_M_wait : Value) (u_M_held : Value) (u_M_place : Value) (u_M_clocks : Value) (u_M_counts : Value) (u_M_talking : Value) (u_M_most : Value) (u_M_hasA : Value) (u_M_hasB : Value) (u_M_talks : Value) (u_M_big : Value) (v_M_acts : Int32) (a_M_heap : Nat → Int64) (a_M_act : Nat → Int32) (a_M_now : Nat → Int32) (x1 : Int32) (x2 : Int32) (x3 : Int32) (x4 : Int32) (o : Int64 × (Nat → Int64)) (hg : g_X11_tells v_M_acts a_M_act a_M_now x1 x2 x3 x4 a_M_heap = some o) : zM l yX11_tells (Cond.code yX11_tells cX11_tells 8 (some .long) :: wsL_law) rm_X11_tells D (zTy cI cJ cZ cA) ga [.ref q_M, .int x1, .int x2, .int x3, .int x4] (ws_X11_tells cI cJ cZ cA q_M q_M_heap q_M_act q_M_now u_M_images u_M_kept u_M_text u_M_size u_M_sign u_M_manyAbove u_M_manyBelow u_M_above u_M_below u_M_refused u_M_at u_M_begin u_M_kind u_M_value u_M_read u_M_waits u_M_wait u_M_held u_M_place u_M_clocks u_M_counts u_M_talking u_M_most u_M_hasA u_M_hasB u_M_talks u_M_big v_M_acts a_M_heap a_M_act a_M_now) (ws_X11_tells cI cJ cZ cA q_M q_M_heap q_M_act q_M_now u_M_images u_M_kept u_M_text u_M_size u_M_sign u_M_manyAbove u_M_manyBelow u_M_above u_M_below u_M_refused u_M_at u_M_begin u_M_kind u_M_value u_M_read u_M_waits u_M_wait u_M_held u_M_place u_M_clocks u_M_counts u_M_talking u_M_most u_M_hasA u_M_hasB u_M_talks u_M_big v_M_acts o.2 a_M_act a_M_now) (some (.long o.1)) := by
  refine zenterL (own := RX11) (by decide) rfl rfl (Nat.le_of_ble_eq_true rfl) ?_
  intro p e s m args below meth c A ls Q S hA hK hG hl hP hD hS hret0
  have hx := S.1
  have hb := S.2.1
  have ht : ∀ w, w ∈ wsL_law → w.before args s = true := fun w h => S.2.2.2.2 w (List.mem_cons_of_mem _ h)
  have hret : ∀ (r9 : Int64) (a_M_heap : Nat → Int64), (some (r9, a_M_heap) : Option (Int64 × (Nat → Int64))) = some o → ∀ (H : Heap) (locs : List Loc) (pc : Nat) (ls : Array Slot), va_P D vwCl (ws_X11_tells cI cJ cZ cA q_M q_M_heap q_M_act q_M_now u_M_images u_M_kept u_M_text u_M_size u_M_sign u_M_manyAbove u_M_manyBelow u_M_above u_M_below u_M_refused u_M_at u_M_begin u_M_kind u_M_value u_M_read u_M_waits u_M_wait u_M_held u_M_place u_M_clocks u_M_counts u_M_talking u_M_most u_M_hasA u_M_hasB u_M_talks u_M_big v_M_acts a_M_heap a_M_act a_M_now) H → va_S A s.heap H locs → decode cX11_tells pc = .ok (.lreturn, 1) → W p l e rm_X11_tells s m args below meth c H locs 0 0 Q (F0 m pc ls [.long r9]) := by
    intro r9 a_M_heap he; cases he; exact hret0
  have hl : lv_has ls 8 [(0, .ref q_M), (1, .int x1), (2, .int x2), (3, .int x3), (4, .int x4)] := hl
  have B241 : ∀ (k6 : Int32 → Int32 → (Nat → Int64) → Option (Int64 × (Nat → Int64))) (hk6 : ∀ (x5 : Int32) (x6 : Int32) (a_M_heap : Nat → Int64) (H : Heap) (locs : List Loc) (ls : Array Slot) (hl : lv_has ls 8 [(0, .ref q_M), (1, .int x1), (2, .int x2), (3, .int x3), (4, .int x4), (5, .int x5), (6, .int x6)]) (hP : va_P D vwCl (ws_X11_tells cI cJ cZ cA q_M q_M_heap q_M_act q_M_now u_M_images u_M_kept u_M_text u_M_size u_M_sign u_M_manyAbove u_M_manyBelow u_M_above u_M_below u_M_refused u_M_at u_M_begin u_M_kind u_M_value u_M_read u_M_waits u_M_wait u_M_held u_M_place u_M_clocks u_M_counts u_M_talking u_M_most u_M_hasA u_M_hasB u_M_talks u_M_big v_M_acts a_M_heap a_M_act a_M_now) H) (hD : va_D A (ws_X11_tells cI cJ cZ cA q_M q_M_heap q_M_act q_M_now u_M_images u_M_kept u_M_text u_M_size u_M_sign u_M_manyAbove u_M_manyBelow u_M_above u_M_below u_M_refused u_M_at u_M_begin u_M_kind u_M_value u_M_read u_M_waits u_M_wait u_M_held u_M_place u_M_clocks u_M_counts u_M_talking u_M_most u_M_hasA u_M_hasB u_M_talks u_M_big v_M_acts a_M_heap a_M_act a_M_now)) (hS : va_S A s.heap H locs), k6 x5 x6 a_M_heap = some o → W p l e rm_X11_tells s m args below meth c H locs 0 0 Q (F0 m 6 ls [])) (x5 : Int32) (x6 : Int32) (a_M_heap : Nat → Int64) (H : Heap) (locs : List Loc) (ls : Array Slot) (hl : lv_has ls 8 [(0, .ref q_M), (1, .int x1), (2, .int x2), (3, .int x3), (4, .int x4), (5, .int x5), (6, .int x6)]) (hP : va_P D vwCl (ws_X11_tells cI cJ cZ cA q_M q_M_heap q_M_act q_M_now u_M_images u_M_kept u_M_text u_M_size u_M_sign u_M_manyAbove u_M_manyBelow u_M_above u_M_below u_M_refused u_M_at u_M_begin u_M_kind u_M_value u_M_read u_M_waits u_M_wait u_M_held u_M_place u_M_clocks u_M_counts u_M_talking u_M_most u_M_hasA u_M_hasB u_M_talks u_M_big v_M_acts a_M_heap a_M_act a_M_now) H) (hD : va_D A (ws_X11_tells cI cJ cZ cA q_M q_M_heap q_M_act q_M_now u_M_images u_M_kept u_M_text u_M_size u_M_sign u_M_manyAbove u_M_manyBelow u_M_above u_M_below u_M_refused u_M_at u_M_begin u_M_kind u_M_value u_M_read u_M_waits u_M_wait u_M_held u_M_place u_M_clocks u_M_counts u_M_talking u_M_most u_M_hasA u_M_hasB u_M_talks u_M_big v_M_acts a_M_heap a_M_act a_M_now)) (hS : va_S A s.heap H locs), g_X11_tells_241 v_M_acts a_M_act a_M_now x1 x2 x3 x4 k6 x5 x6 a_M_heap = some o → W p l e rm_X11_tells s m args below meth c H locs 0 0 Q (F0 m 241 ls []) := by
    intro k6 hk6 x5 x6 a_M_heap H locs ls hl hP hD hS hg
    refine lv_iinc (k := 6) (v := x6 + 1) (lv' := [(6, .int (x6 + 1)), (0, .ref q_M), (1, .int x1), (2, .int x2), (3, .int x3), (4, .int x4), (5, .int x5)]) hx hb dX11_tells_241 hl rfl (zinc (by decide)) (by decide) rfl (fun ls hl => ?_)
    refine lv_goto (tgt := 6) hx hb dX11_tells_244 (by decide) ?_
    exact hk6 x5 (x6 + 1) a_M_heap _ _ _ (lv_sub hl [1, 2, 3, 4, 5, 6, 0] rfl) hP hD hS hg
  have B174 : ∀ (k6 : Int32 → Int32 → (Nat → Int64) → Option (Int64 × (Nat → Int64))) (hk6 : ∀ (x5 : Int32) (x6 : Int32) (a_M_heap : Nat → Int64) (H : Heap) (locs : List Loc) (ls : Array Slot) (hl : lv_has ls 8 [(0, .ref q_M), (1, .int x1), (2, .int x2), (3, .int x3), (4, .int x4), (5, .int x5), (6, .int x6)]) (hP : va_P D vwCl (ws_X11_tells cI cJ cZ cA q_M q_M_heap q_M_act q_M_now u_M_images u_M_kept u_M_text u_M_size u_M_sign u_M_manyAbove u_M_manyBelow u_M_above u_M_below u_M_refused u_M_at u_M_begin u_M_kind u_M_value u_M_read u_M_waits u_M_wait u_M_held u_M_place u_M_clocks u_M_counts u_M_talking u_M_most u_M_hasA u_M_hasB u_M_talks u_M_big v_M_acts a_M_heap a_M_act a_M_now) H) (hD : va_D A (ws_X11_tells cI cJ cZ cA q_M q_M_heap q_M_act q_M_now u_M_images u_M_kept u_M_text u_M_size u_M_sign u_M_manyAbove u_M_manyBelow u_M_above u_M_below u_M_refused u_M_at u_M_begin u_M_kind u_M_value u_M_read u_M_waits u_M_wait u_M_held u_M_place u_M_clocks u_M_counts u_M_talking u_M_most u_M_hasA u_M_hasB u_M_talks u_M_big v_M_acts a_M_heap a_M_act a_M_now)) (hS : va_S A s.heap H locs), k6 x5 x6 a_M_heap = some o → W p l e rm_X11_tells s m args below meth c H locs 0 0 Q (F0 m 6 ls [])) (x5 : Int32) (x6 : Int32) (t1 : Int32) (t2 : Int64) (a_M_heap : Nat → Int64) (H : Heap) (locs : List Loc) (ls : Array Slot) (hl : lv_has ls 8 [(0, .ref q_M), (1, .int x1), (2, .int x2), (3, .int x3), (4, .int x4), (5, .int x5), (6, .int x6)]) (hP : va_P D vwCl (ws_X11_tells cI cJ cZ cA q_M q_M_heap q_M_act q_M_now u_M_images u_M_kept u_M_text u_M_size u_M_sign u_M_manyAbove u_M_manyBelow u_M_above u_M_below u_M_refused u_M_at u_M_begin u_M_kind u_M_value u_M_read u_M_waits u_M_wait u_M_held u_M_place u_M_clocks u_M_counts u_M_talking u_M_most u_M_hasA u_M_hasB u_M_talks u_M_big v_M_acts a_M_heap a_M_act a_M_now) H) (hD : va_D A (ws_X11_tells cI cJ cZ cA q_M q_M_heap q_M_act q_M_now u_M_images u_M_kept u_M_text u_M_size u_M_sign u_M_manyAbove u_M_manyBelow u_M_above u_M_below u_M_refused u_M_at u_M_begin u_M_kind u_M_value u_M_read u_M_waits u_M_wait u_M_held u_M_place u_M_clocks u_M_counts u_M_talking u_M_most u_M_hasA u_M_hasB u_M_talks u_M_big v_M_acts a_M_heap a_M_act a_M_now)) (hS : va_S A s.heap H locs), g_X11_tells_174 v_M_acts a_M_act a_M_now x1 x2 x3 x4 k6 x5 x6 t1 t2 a_M_heap = some o → W p l e rm_X11_tells s m args below meth c H locs 0 0 Q (F0 m 174 ls [.long t2, .int t1, .ref q_M_heap]) := by
    intro k6 hk6 x5 x6 t1 t2 a_M_heap H locs ls hl hP hD hS hg
    obtain ⟨h12, hg⟩ := zck hg
    refine zlast hx hb hK hP hD hS 1 1 rfl rfl (j := (t1.toNatClampNeg)) h12 rfl dX11_tells_174 (w2 := (ws_X11_tells cI cJ cZ cA q_M q_M_heap q_M_act q_M_now u_M_images u_M_kept u_M_text u_M_size u_M_sign u_M_manyAbove u_M_manyBelow u_M_above u_M_below u_M_refused u_M_at u_M_begin u_M_kind u_M_value u_M_read u_M_waits u_M_wait u_M_held u_M_place u_M_clocks u_M_counts u_M_talking u_M_most u_M_hasA u_M_hasB u_M_talks u_M_big v_M_acts (vp_updL a_M_heap (t1.toNatClampNeg) t2) a_M_act a_M_now)) rfl (fun H locs hP hD hS => ?_)
    refine lv_goto (tgt := 241) hx hb dX11_tells_175 (by decide) ?_
    exact B241 k6 hk6 x5 x6 (vp_updL a_M_heap (t1.toNatClampNeg) t2) _ _ _ hl hP hD hS hg
  have B133 : ∀ (k6 : Int32 → Int32 → (Nat → Int64) → Option (Int64 × (Nat → Int64))) (hk6 : ∀ (x5 : Int32) (x6 : Int32) (a_M_heap : Nat → Int64) (H : Heap) (locs : List Loc) (ls : Array Slot) (hl : lv_has ls 8 [(0, .ref q_M), (1, .int x1), (2, .int x2), (3, .int x3), (4, .int x4), (5, .int x5), (6, .int x6)]) (hP : va_P D vwCl (ws_X11_tells cI cJ cZ cA q_M q_M_heap q_M_act q_M_now u_M_images u_M_kept u_M_text u_M_size u_M_sign u_M_manyAbove u_M_manyBelow u_M_above u_M_below u_M_refused u_M_at u_M_begin u_M_kind u_M_value u_M_read u_M_waits u_M_wait u_M_held u_M_place u_M_clocks u_M_counts u_M_talking u_M_most u_M_hasA u_M_hasB u_M_talks u_M_big v_M_acts a_M_heap a_M_act a_M_now) H) (hD : va_D A (ws_X11_tells cI cJ cZ cA q_M q_M_heap q_M_act q_M_now u_M_images u_M_kept u_M_text u_M_size u_M_sign u_M_manyAbove u_M_manyBelow u_M_above u_M_below u_M_refused u_M_at u_M_begin u_M_kind u_M_value u_M_read u_M_waits u_M_wait u_M_held u_M_place u_M_clocks u_M_counts u_M_talking u_M_most u_M_hasA u_M_hasB u_M_talks u_M_big v_M_acts a_M_heap a_M_act a_M_now)) (hS : va_S A s.heap H locs), k6 x5 x6 a_M_heap = some o → W p l e rm_X11_tells s m args below meth c H locs 0 0 Q (F0 m 6 ls [])) (x5 : Int32) (x6 : Int32) (t1 : Int32) (t2 : Int64) (a_M_heap : Nat → Int64) (H : Heap) (locs : List Loc) (ls : Array Slot) (hl : lv_has ls 8 [(0, .ref q_M), (1, .int x1), (2, .int x2), (3, .int x3), (4, .int x4), (5, .int x5), (6, .int x6)]) (hP : va_P D vwCl (ws_X11_tells cI cJ cZ cA q_M q_M_heap q_M_act q_M_now u_M_images u_M_kept u_M_text u_M_size u_M_sign u_M_manyAbove u_M_manyBelow u_M_above u_M_below u_M_refused u_M_at u_M_begin u_M_kind u_M_value u_M_read u_M_waits u_M_wait u_M_held u_M_place u_M_clocks u_M_counts u_M_talking u_M_most u_M_hasA u_M_hasB u_M_talks u_M_big v_M_acts a_M_heap a_M_act a_M_now) H) (hD : va_D A (ws_X11_tells cI cJ cZ cA q_M q_M_heap q_M_act q_M_now u_M_images u_M_kept u_M_text u_M_size u_M_sign u_M_manyAbove u_M_manyBelow u_M_above u_M_below u_M_refused u_M_at u_M_begin u_M_kind u_M_value u_M_read u_M_waits u_M_wait u_M_held u_M_place u_M_clocks u_M_counts u_M_talking u_M_most u_M_hasA u_M_hasB u_M_talks u_M_big v_M_acts a_M_heap a_M_act a_M_now)) (hS : va_S A s.heap H locs), g_X11_tells_133 v_M_acts a_M_act a_M_now x1 x2 x3 x4 k6 x5 x6 t1 t2 a_M_heap = some o → W p l e rm_X11_tells s m args below meth c H locs 0 0 Q (F0 m 133 ls [.long t2, .int t1, .ref q_M_heap]) := by
    intro k6 hk6 x5 x6 t1 t2 a_M_heap H locs ls hl hP hD hS hg
    obtain ⟨h13, hg⟩ := zck hg
    refine zlast hx hb hK hP hD hS 1 1 rfl rfl (j := (t1.toNatClampNeg)) h13 rfl dX11_tells_133 (w2 := (ws_X11_tells cI cJ cZ cA q_M q_M_heap q_M_act q_M_now u_M_images u_M_kept u_M_text u_M_size u_M_sign u_M_manyAbove u_M_manyBelow u_M_above u_M_below u_M_refused u_M_at u_M_begin u_M_kind u_M_value u_M_read u_M_waits u_M_wait u_M_held u_M_place u_M_clocks u_M_counts u_M_talking u_M_most u_M_hasA u_M_hasB u_M_talks u_M_big v_M_acts (vp_updL a_M_heap (t1.toNatClampNeg) t2) a_M_act a_M_now)) rfl (fun H locs hP hD hS => ?_)
    refine lv_iinc (k := 5) (v := x5 + 1) (lv' := [(5, .int (x5 + 1)), (0, .ref q_M), (1, .int x1), (2, .int x2), (3, .int x3), (4, .int x4), (6, .int x6)]) hx hb dX11_tells_134 hl rfl (zinc (by decide)) (by decide) rfl (fun ls hl => ?_)
    refine lv_goto (tgt := 241) hx hb dX11_tells_137 (by decide) ?_
    exact B241 k6 hk6 (x5 + 1) x6 (vp_updL a_M_heap (t1.toNatClampNeg) t2) _ _ _ (lv_sub hl [1, 2, 3, 4, 5, 0, 6] rfl) hP hD hS hg
  have B6 : ∀  (n : Nat) (x5 : Int32) (x6 : Int32) (a_M_heap : Nat → Int64) (H : Heap) (locs : List Loc) (ls : Array Slot) (hl : lv_has ls 8 [(0, .ref q_M), (1, .int x1), (2, .int x2), (3, .int x3), (4, .int x4), (5, .int x5), (6, .int x6)]) (hP : va_P D vwCl (ws_X11_tells cI cJ cZ cA q_M q_M_heap q_M_act q_M_now u_M_images u_M_kept u_M_text u_M_size u_M_sign u_M_manyAbove u_M_manyBelow u_M_above u_M_below u_M_refused u_M_at u_M_begin u_M_kind u_M_value u_M_read u_M_waits u_M_wait u_M_held u_M_place u_M_clocks u_M_counts u_M_talking u_M_most u_M_hasA u_M_hasB u_M_talks u_M_big v_M_acts a_M_heap a_M_act a_M_now) H) (hD : va_D A (ws_X11_tells cI cJ cZ cA q_M q_M_heap q_M_act q_M_now u_M_images u_M_kept u_M_text u_M_size u_M_sign u_M_manyAbove u_M_manyBelow u_M_above u_M_below u_M_refused u_M_at u_M_begin u_M_kind u_M_value u_M_read u_M_waits u_M_wait u_M_held u_M_place u_M_clocks u_M_counts u_M_talking u_M_most u_M_hasA u_M_hasB u_M_talks u_M_big v_M_acts a_M_heap a_M_act a_M_now)) (hS : va_S A s.heap H locs), g_X11_tells_6 v_M_acts a_M_act a_M_now x1 x2 x3 x4 n x5 x6 a_M_heap = some o → W p l e rm_X11_tells s m args below meth c H locs 0 0 Q (F0 m 6 ls []) := by
    intro  n
    induction n with
    | zero => intro x5 x6 a_M_heap H locs ls hl hP hD hS hg; exact nomatch (show (none : Option (Int64 × (Nat → Int64))) = some o from hg)
    | succ n ih =>
      intro x5 x6 a_M_heap H locs ls hl hP hD hS hg
      have hg : g_X11_tells_6b v_M_acts a_M_act a_M_now x1 x2 x3 x4 (g_X11_tells_6 v_M_acts a_M_act a_M_now x1 x2 x3 x4 n) x5 x6 a_M_heap = some o := hg
      refine lv_iload hx hb dX11_tells_6 (lv_at hl 6 rfl) ?_
      refine lv_aload_n hx hb dX11_tells_8 rfl (lv_at hl 0 rfl) ?_
      refine zget (C := RX11) (T := TX11) (N := 31) S hK hP 0 rfl rfl 16 (Nat.le_of_ble_eq_true rfl) zf_11 zw_595 rfl dX11_tells_9 ?_
      refine lv_icmp_ge (tgt := 247) hx hb dX11_tells_12 (by decide) (fun h12 => ?_) (fun h12 => ?_)
      · have hg := zp hg h12
        refine lv_aload_n hx hb dX11_tells_247 rfl (lv_at hl 0 rfl) ?_
        refine zget (C := RX11) (T := TX11) (N := 31) S hK hP 0 rfl rfl 22 (Nat.le_of_ble_eq_true rfl) zf_11 zw_161 rfl dX11_tells_248 ?_
        refine lv_iconst (v := 0) hx hb dX11_tells_251 (by decide) ?_
        refine zlald hx hb hK hP 1 1 rfl rfl (j := 0) (zin (by decide)) (by decide) dX11_tells_252 ?_
        exact hret (a_M_heap 0) a_M_heap hg _ _ _ _ hP hS dX11_tells_253
      · have hg := zn hg h12
        refine lv_aload_n hx hb dX11_tells_15 rfl (lv_at hl 0 rfl) ?_
        refine zget (C := RX11) (T := TX11) (N := 31) S hK hP 0 rfl rfl 17 (Nat.le_of_ble_eq_true rfl) zf_11 zw_158 rfl dX11_tells_16 ?_
        refine lv_iload hx hb dX11_tells_19 (lv_at hl 6 rfl) ?_
        obtain ⟨h1, hg⟩ := zck hg
        refine ziald hx hb hK hP 2 0 rfl rfl (j := (x6.toNatClampNeg)) h1 rfl dX11_tells_21 ?_
        refine lv_istore (lv' := [(7, .int (a_M_act (x6.toNatClampNeg))), (0, .ref q_M), (1, .int x1), (2, .int x2), (3, .int x3), (4, .int x4), (5, .int x5), (6, .int x6)]) hx hb dX11_tells_22 hl (by decide) rfl (fun ls hl => ?_)
        refine lv_iload hx hb dX11_tells_24 (lv_at hl 0 rfl) ?_
        refine lv_if_lt (tgt := 45) hx hb dX11_tells_26 (by decide) (fun h26 => ?_) (fun h26 => ?_)
        · have hg := zp hg h26
          refine lv_iload hx hb dX11_tells_45 (lv_at hl 0 rfl) ?_
          refine lv_ineg hx hb dX11_tells_47 ?_
          obtain ⟨v2, hc3, hg⟩ := zbd hg
          refine zcallS (rest := []) S (c_X11_isName l D cI cJ cZ cA ga (-(a_M_act (x6.toNatClampNeg))) v2 hc3) (zgS zw_606 zw_607 zw_5 zw_608) rfl hd_X11_isName ⟨rfl, rfl⟩ ⟨Nat.le_of_ble_eq_true rfl, Nat.le_of_ble_eq_true rfl⟩ rfl hl.1 rfl (Nat.le_of_ble_eq_true rfl) dX11_tells_48 hP hD hS hA hK hG (isC := []) rfl (by decide +kernel) rfl ⟨Nat.zero_le _, Nat.zero_le _⟩ (pl := [none, none, none, none]) (nw := 4) rfl (by decide +kernel) (w2 := (ws_X11_tells cI cJ cZ cA q_M q_M_heap q_M_act q_M_now u_M_images u_M_kept u_M_text u_M_size u_M_sign u_M_manyAbove u_M_manyBelow u_M_above u_M_below u_M_refused u_M_at u_M_begin u_M_kind u_M_value u_M_read u_M_waits u_M_wait u_M_held u_M_place u_M_clocks u_M_counts u_M_talking u_M_most u_M_hasA u_M_hasB u_M_talks u_M_big v_M_acts a_M_heap a_M_act a_M_now)) rfl (st1 := [.int v2]) rfl (fun H locs hP hD hS => ?_)
          refine lv_if_eq (tgt := 140) hx hb dX11_tells_51 (by decide) (fun h51 => ?_) (fun h51 => ?_)
          · have hg := zp hg h51
            refine lv_iload hx hb dX11_tells_140 (lv_at hl 0 rfl) ?_
            refine lv_bipush (v := (-33)) hx hb dX11_tells_142 (by decide) ?_
            refine lv_icmp_ne (tgt := 178) hx hb dX11_tells_144 (by decide) (fun h144 => ?_) (fun h144 => ?_)
            · have hg := zn hg h144
              refine lv_iload hx hb dX11_tells_178 (lv_at hl 0 rfl) ?_
              refine lv_bipush (v := (-126)) hx hb dX11_tells_180 (by decide) ?_
              refine lv_icmp_ne (tgt := 207) hx hb dX11_tells_182 (by decide) (fun h182 => ?_) (fun h182 => ?_)
              · have hg := zn hg h182
                refine lv_iinc (k := 6) (v := x5 + (-1)) (lv' := [(5, .int (x5 + (-1))), (7, .int (a_M_act (x6.toNatClampNeg))), (0, .ref q_M), (1, .int x1), (2, .int x2), (3, .int x3), (4, .int x4), (6, .int x6)]) hx hb dX11_tells_207 hl rfl (zinc (by decide)) (by decide) rfl (fun ls hl => ?_)
                refine lv_aload_n hx hb dX11_tells_210 rfl (lv_at hl 2 rfl) ?_
                refine zget (C := RX11) (T := TX11) (N := 31) S hK hP 0 rfl rfl 22 (Nat.le_of_ble_eq_true rfl) zf_11 zw_161 rfl dX11_tells_211 ?_
                refine lv_iload hx hb dX11_tells_214 (lv_at hl 0 rfl) ?_
                refine lv_iconst (v := 1) hx hb dX11_tells_216 (by decide) ?_
                refine lv_isub hx hb dX11_tells_217 ?_
                refine lv_iload hx hb dX11_tells_218 (lv_at hl 1 rfl) ?_
                refine lv_ineg hx hb dX11_tells_220 ?_
                refine lv_aload_n hx hb dX11_tells_221 rfl (lv_at hl 2 rfl) ?_
                refine zget (C := RX11) (T := TX11) (N := 31) S hK hP 0 rfl rfl 22 (Nat.le_of_ble_eq_true rfl) zf_11 zw_161 rfl dX11_tells_222 ?_
                refine lv_iload hx hb dX11_tells_225 (lv_at hl 0 rfl) ?_
                refine lv_iconst (v := 1) hx hb dX11_tells_227 (by decide) ?_
                refine lv_isub hx hb dX11_tells_228 ?_
                obtain ⟨h4, hg⟩ := zck hg
                refine zlald hx hb hK hP 1 1 rfl rfl (j := (((x5 + (-1)) - 1).toNatClampNeg)) h4 rfl dX11_tells_229 ?_
                refine lv_aload_n hx hb dX11_tells_230 rfl (lv_at hl 2 rfl) ?_
                refine zget (C := RX11) (T := TX11) (N := 31) S hK hP 0 rfl rfl 22 (Nat.le_of_ble_eq_true rfl) zf_11 zw_161 rfl dX11_tells_231 ?_
                refine lv_iload hx hb dX11_tells_234 (lv_at hl 0 rfl) ?_
                obtain ⟨h5, hg⟩ := zck hg
                refine zlald hx hb hK hP 1 1 rfl rfl (j := ((x5 + (-1)).toNatClampNeg)) h5 rfl dX11_tells_236 ?_
                obtain ⟨v6, hc7, hg⟩ := zbd hg
                refine zcallS (rest := [.int ((x5 + (-1)) - 1), .ref q_M_heap]) S (c_X11_worked l D cI cJ cZ cA ga (-(a_M_act (x6.toNatClampNeg))) (a_M_heap (((x5 + (-1)) - 1).toNatClampNeg)) (a_M_heap ((x5 + (-1)).toNatClampNeg)) v6 hc7) (zgS zw_690 zw_691 zw_5 zw_692) rfl hd_X11_worked ⟨rfl, rfl⟩ ⟨Nat.le_of_ble_eq_true rfl, Nat.le_of_ble_eq_true rfl⟩ rfl hl.1 rfl (Nat.le_of_ble_eq_true rfl) dX11_tells_237 hP hD hS hA hK hG (isC := []) rfl (by decide +kernel) rfl ⟨Nat.zero_le _, Nat.zero_le _⟩ (pl := [none, none, none, none]) (nw := 4) rfl (by decide +kernel) (w2 := (ws_X11_tells cI cJ cZ cA q_M q_M_heap q_M_act q_M_now u_M_images u_M_kept u_M_text u_M_size u_M_sign u_M_manyAbove u_M_manyBelow u_M_above u_M_below u_M_refused u_M_at u_M_begin u_M_kind u_M_value u_M_read u_M_waits u_M_wait u_M_held u_M_place u_M_clocks u_M_counts u_M_talking u_M_most u_M_hasA u_M_hasB u_M_talks u_M_big v_M_acts a_M_heap a_M_act a_M_now)) rfl (st1 := [.long v6, .int ((x5 + (-1)) - 1), .ref q_M_heap]) rfl (fun H locs hP hD hS => ?_)
                obtain ⟨h8, hg⟩ := zck hg
                refine zlast hx hb hK hP hD hS 1 1 rfl rfl (j := (((x5 + (-1)) - 1).toNatClampNeg)) h8 rfl dX11_tells_240 (w2 := (ws_X11_tells cI cJ cZ cA q_M q_M_heap q_M_act q_M_now u_M_images u_M_kept u_M_text u_M_size u_M_sign u_M_manyAbove u_M_manyBelow u_M_above u_M_below u_M_refused u_M_at u_M_begin u_M_kind u_M_value u_M_read u_M_waits u_M_wait u_M_held u_M_place u_M_clocks u_M_counts u_M_talking u_M_most u_M_hasA u_M_hasB u_M_talks u_M_big v_M_acts (vp_updL a_M_heap (((x5 + (-1)) - 1).toNatClampNeg) v6) a_M_act a_M_now)) rfl (fun H locs hP hD hS => ?_)
                exact B241 (g_X11_tells_6 v_M_acts a_M_act a_M_now x1 x2 x3 x4 n) ih (x5 + (-1)) x6 (vp_updL a_M_heap (((x5 + (-1)) - 1).toNatClampNeg) v6) _ _ _ (lv_sub hl [2, 3, 4, 5, 6, 0, 7] rfl) hP hD hS hg
              · have hg := zp hg h182
                refine lv_aload_n hx hb dX11_tells_185 rfl (lv_at hl 1 rfl) ?_
                refine zget (C := RX11) (T := TX11) (N := 31) S hK hP 0 rfl rfl 22 (Nat.le_of_ble_eq_true rfl) zf_11 zw_161 rfl dX11_tells_186 ?_
                refine lv_iload hx hb dX11_tells_189 (lv_at hl 6 rfl) ?_
                refine lv_iconst (v := 1) hx hb dX11_tells_191 (by decide) ?_
                refine lv_isub hx hb dX11_tells_192 ?_
                refine lv_aload_n hx hb dX11_tells_193 rfl (lv_at hl 1 rfl) ?_
                refine zget (C := RX11) (T := TX11) (N := 31) S hK hP 0 rfl rfl 22 (Nat.le_of_ble_eq_true rfl) zf_11 zw_161 rfl dX11_tells_194 ?_
                refine lv_iload hx hb dX11_tells_197 (lv_at hl 6 rfl) ?_
                refine lv_iconst (v := 1) hx hb dX11_tells_199 (by decide) ?_
                refine lv_isub hx hb dX11_tells_200 ?_
                obtain ⟨h9, hg⟩ := zck hg
                refine zlald hx hb hK hP 1 1 rfl rfl (j := ((x5 - 1).toNatClampNeg)) h9 rfl dX11_tells_201 ?_
                refine lv_lneg hx hb dX11_tells_202 ?_
                obtain ⟨h10, hg⟩ := zck hg
                refine zlast hx hb hK hP hD hS 1 1 rfl rfl (j := ((x5 - 1).toNatClampNeg)) h10 rfl dX11_tells_203 (w2 := (ws_X11_tells cI cJ cZ cA q_M q_M_heap q_M_act q_M_now u_M_images u_M_kept u_M_text u_M_size u_M_sign u_M_manyAbove u_M_manyBelow u_M_above u_M_below u_M_refused u_M_at u_M_begin u_M_kind u_M_value u_M_read u_M_waits u_M_wait u_M_held u_M_place u_M_clocks u_M_counts u_M_talking u_M_most u_M_hasA u_M_hasB u_M_talks u_M_big v_M_acts (vp_updL a_M_heap ((x5 - 1).toNatClampNeg) (-(a_M_heap ((x5 - 1).toNatClampNeg)))) a_M_act a_M_now)) rfl (fun H locs hP hD hS => ?_)
                refine lv_goto (tgt := 241) hx hb dX11_tells_204 (by decide) ?_
                exact B241 (g_X11_tells_6 v_M_acts a_M_act a_M_now x1 x2 x3 x4 n) ih x5 x6 (vp_updL a_M_heap ((x5 - 1).toNatClampNeg) (-(a_M_heap ((x5 - 1).toNatClampNeg)))) _ _ _ (lv_sub hl [1, 2, 3, 4, 5, 6, 7] rfl) hP hD hS hg
            · have hg := zp hg h144
              refine lv_aload_n hx hb dX11_tells_147 rfl (lv_at hl 1 rfl) ?_
              refine zget (C := RX11) (T := TX11) (N := 31) S hK hP 0 rfl rfl 22 (Nat.le_of_ble_eq_true rfl) zf_11 zw_161 rfl dX11_tells_148 ?_
              refine lv_iload hx hb dX11_tells_151 (lv_at hl 6 rfl) ?_
              refine lv_iconst (v := 1) hx hb dX11_tells_153 (by decide) ?_
              refine lv_isub hx hb dX11_tells_154 ?_
              refine lv_aload_n hx hb dX11_tells_155 rfl (lv_at hl 1 rfl) ?_
              refine zget (C := RX11) (T := TX11) (N := 31) S hK hP 0 rfl rfl 22 (Nat.le_of_ble_eq_true rfl) zf_11 zw_161 rfl dX11_tells_156 ?_
              refine lv_iload hx hb dX11_tells_159 (lv_at hl 6 rfl) ?_
              refine lv_iconst (v := 1) hx hb dX11_tells_161 (by decide) ?_
              refine lv_isub hx hb dX11_tells_162 ?_
              obtain ⟨h11, hg⟩ := zck hg
              refine zlald hx hb hK hP 1 1 rfl rfl (j := ((x5 - 1).toNatClampNeg)) h11 rfl dX11_tells_163 ?_
              refine lv_lconst (v := 0) hx hb dX11_tells_164 (by decide) ?_
              refine W.lcmp hx hb dX11_tells_165 ?_
              refine lv_if_ne (tgt := 173) hx hb dX11_tells_166 (by decide) (fun h166 => ?_) (fun h166 => ?_)
              · have hg := zn hg h166
                refine lv_lconst (v := 0) hx hb dX11_tells_173 (by decide) ?_
                exact B174 (g_X11_tells_6 v_M_acts a_M_act a_M_now x1 x2 x3 x4 n) ih x5 x6 (x5 - 1) (0 : Int64) a_M_heap _ _ _ (lv_sub hl [1, 2, 3, 4, 5, 6, 7] rfl) hP hD hS hg
              · have hg := zp hg h166
                refine lv_lconst (v := 1) hx hb dX11_tells_169 (by decide) ?_
                refine lv_goto (tgt := 174) hx hb dX11_tells_170 (by decide) ?_
                exact B174 (g_X11_tells_6 v_M_acts a_M_act a_M_now x1 x2 x3 x4 n) ih x5 x6 (x5 - 1) (1 : Int64) a_M_heap _ _ _ (lv_sub hl [1, 2, 3, 4, 5, 6, 7] rfl) hP hD hS hg
          · have hg := zn hg h51
            refine lv_aload_n hx hb dX11_tells_54 rfl (lv_at hl 1 rfl) ?_
            refine zget (C := RX11) (T := TX11) (N := 31) S hK hP 0 rfl rfl 22 (Nat.le_of_ble_eq_true rfl) zf_11 zw_161 rfl dX11_tells_55 ?_
            refine lv_iload hx hb dX11_tells_58 (lv_at hl 6 rfl) ?_
            refine lv_iload hx hb dX11_tells_60 (lv_at hl 0 rfl) ?_
            refine lv_bipush (v := (-99)) hx hb dX11_tells_62 (by decide) ?_
            refine lv_icmp_ne (tgt := 72) hx hb dX11_tells_64 (by decide) (fun h64 => ?_) (fun h64 => ?_)
            · have hg := zn hg h64
              refine lv_iload hx hb dX11_tells_72 (lv_at hl 0 rfl) ?_
              refine lv_bipush (v := (-115)) hx hb dX11_tells_74 (by decide) ?_
              refine lv_icmp_ne (tgt := 84) hx hb dX11_tells_76 (by decide) (fun h76 => ?_) (fun h76 => ?_)
              · have hg := zn hg h76
                refine lv_iload hx hb dX11_tells_84 (lv_at hl 0 rfl) ?_
                refine lv_bipush (v := (-111)) hx hb dX11_tells_86 (by decide) ?_
                refine lv_icmp_ne (tgt := 96) hx hb dX11_tells_88 (by decide) (fun h88 => ?_) (fun h88 => ?_)
                · have hg := zn hg h88
                  refine lv_iload hx hb dX11_tells_96 (lv_at hl 0 rfl) ?_
                  refine lv_bipush (v := (-112)) hx hb dX11_tells_98 (by decide) ?_
                  refine lv_icmp_ne (tgt := 109) hx hb dX11_tells_100 (by decide) (fun h100 => ?_) (fun h100 => ?_)
                  · have hg := zn hg h100
                    refine lv_iload hx hb dX11_tells_109 (lv_at hl 0 rfl) ?_
                    refine lv_bipush (v := (-98)) hx hb dX11_tells_111 (by decide) ?_
                    refine lv_icmp_ne (tgt := 126) hx hb dX11_tells_113 (by decide) (fun h113 => ?_) (fun h113 => ?_)
                    · have hg := zn hg h113
                      refine lv_aload_n hx hb dX11_tells_126 rfl (lv_at hl 1 rfl) ?_
                      refine zget (C := RX11) (T := TX11) (N := 31) S hK hP 0 rfl rfl 0 (Nat.le_of_ble_eq_true rfl) zf_11 zw_149 rfl dX11_tells_127 ?_
                      refine lv_iconst (v := 0) hx hb dX11_tells_130 (by decide) ?_
                      refine ziald hx hb hK hP 3 0 rfl rfl (j := 0) (zin (by decide)) (by decide) dX11_tells_131 ?_
                      refine lv_i2l hx hb dX11_tells_132 rfl ?_
                      exact B133 (g_X11_tells_6 v_M_acts a_M_act a_M_now x1 x2 x3 x4 n) ih x5 x6 x5 ((a_M_now 0).toInt64) a_M_heap _ _ _ (lv_sub hl [1, 2, 3, 4, 5, 6, 7] rfl) hP hD hS hg
                    · have hg := zp hg h113
                      refine lv_aload_n hx hb dX11_tells_116 rfl (lv_at hl 1 rfl) ?_
                      refine zget (C := RX11) (T := TX11) (N := 31) S hK hP 0 rfl rfl 0 (Nat.le_of_ble_eq_true rfl) zf_11 zw_149 rfl dX11_tells_117 ?_
                      refine lv_iconst (v := 2) hx hb dX11_tells_120 (by decide) ?_
                      refine ziald hx hb hK hP 3 0 rfl rfl (j := 2) (zin (by decide)) (by decide) dX11_tells_121 ?_
                      refine lv_i2l hx hb dX11_tells_122 rfl ?_
                      refine lv_goto (tgt := 133) hx hb dX11_tells_123 (by decide) ?_
                      exact B133 (g_X11_tells_6 v_M_acts a_M_act a_M_now x1 x2 x3 x4 n) ih x5 x6 x5 ((a_M_now 2).toInt64) a_M_heap _ _ _ (lv_sub hl [1, 2, 3, 4, 5, 6, 7] rfl) hP hD hS hg
                  · have hg := zp hg h100
                    refine lv_iload hx hb dX11_tells_103 (lv_at hl 5 rfl) ?_
                    refine lv_i2l hx hb dX11_tells_105 rfl ?_
                    refine lv_goto (tgt := 133) hx hb dX11_tells_106 (by decide) ?_
                    exact B133 (g_X11_tells_6 v_M_acts a_M_act a_M_now x1 x2 x3 x4 n) ih x5 x6 x5 x4.toInt64 a_M_heap _ _ _ (lv_sub hl [1, 2, 3, 4, 5, 6, 7] rfl) hP hD hS hg
                · have hg := zp hg h88
                  refine lv_iload_n hx hb dX11_tells_91 rfl (lv_at hl 4 rfl) ?_
                  refine lv_i2l hx hb dX11_tells_92 rfl ?_
                  refine lv_goto (tgt := 133) hx hb dX11_tells_93 (by decide) ?_
                  exact B133 (g_X11_tells_6 v_M_acts a_M_act a_M_now x1 x2 x3 x4 n) ih x5 x6 x5 x3.toInt64 a_M_heap _ _ _ (lv_sub hl [1, 2, 3, 4, 5, 6, 7] rfl) hP hD hS hg
              · have hg := zp hg h76
                refine lv_iload_n hx hb dX11_tells_79 rfl (lv_at hl 3 rfl) ?_
                refine lv_i2l hx hb dX11_tells_80 rfl ?_
                refine lv_goto (tgt := 133) hx hb dX11_tells_81 (by decide) ?_
                exact B133 (g_X11_tells_6 v_M_acts a_M_act a_M_now x1 x2 x3 x4 n) ih x5 x6 x5 x2.toInt64 a_M_heap _ _ _ (lv_sub hl [1, 2, 3, 4, 5, 6, 7] rfl) hP hD hS hg
            · have hg := zp hg h64
              refine lv_iload_n hx hb dX11_tells_67 rfl (lv_at hl 2 rfl) ?_
              refine lv_i2l hx hb dX11_tells_68 rfl ?_
              refine lv_goto (tgt := 133) hx hb dX11_tells_69 (by decide) ?_
              exact B133 (g_X11_tells_6 v_M_acts a_M_act a_M_now x1 x2 x3 x4 n) ih x5 x6 x5 x1.toInt64 a_M_heap _ _ _ (lv_sub hl [1, 2, 3, 4, 5, 6, 7] rfl) hP hD hS hg
        · have hg := zn hg h26
          refine lv_aload_n hx hb dX11_tells_29 rfl (lv_at hl 1 rfl) ?_
          refine zget (C := RX11) (T := TX11) (N := 31) S hK hP 0 rfl rfl 22 (Nat.le_of_ble_eq_true rfl) zf_11 zw_161 rfl dX11_tells_30 ?_
          refine lv_iload hx hb dX11_tells_33 (lv_at hl 6 rfl) ?_
          refine lv_iload hx hb dX11_tells_35 (lv_at hl 0 rfl) ?_
          refine lv_i2l hx hb dX11_tells_37 rfl ?_
          obtain ⟨h14, hg⟩ := zck hg
          refine zlast hx hb hK hP hD hS 1 1 rfl rfl (j := (x5.toNatClampNeg)) h14 rfl dX11_tells_38 (w2 := (ws_X11_tells cI cJ cZ cA q_M q_M_heap q_M_act q_M_now u_M_images u_M_kept u_M_text u_M_size u_M_sign u_M_manyAbove u_M_manyBelow u_M_above u_M_below u_M_refused u_M_at u_M_begin u_M_kind u_M_value u_M_read u_M_waits u_M_wait u_M_held u_M_place u_M_clocks u_M_counts u_M_talking u_M_most u_M_hasA u_M_hasB u_M_talks u_M_big v_M_acts (vp_updL a_M_heap (x5.toNatClampNeg) ((a_M_act (x6.toNatClampNeg)).toInt64)) a_M_act a_M_now)) rfl (fun H locs hP hD hS => ?_)
          refine lv_iinc (k := 6) (v := x5 + 1) (lv' := [(5, .int (x5 + 1)), (7, .int (a_M_act (x6.toNatClampNeg))), (0, .ref q_M), (1, .int x1), (2, .int x2), (3, .int x3), (4, .int x4), (6, .int x6)]) hx hb dX11_tells_39 hl rfl (zinc (by decide)) (by decide) rfl (fun ls hl => ?_)
          refine lv_goto (tgt := 241) hx hb dX11_tells_42 (by decide) ?_
          exact B241 (g_X11_tells_6 v_M_acts a_M_act a_M_now x1 x2 x3 x4 n) ih (x5 + 1) x6 (vp_updL a_M_heap (x5.toNatClampNeg) ((a_M_act (x6.toNatClampNeg)).toInt64)) _ _ _ (lv_sub hl [2, 3, 4, 5, 6, 0, 7] rfl) hP hD hS hg
  refine lv_iconst (v := 0) hx hb dX11_tells_0 (by decide) ?_
  refine lv_istore (lv' := [(5, .int 0), (0, .ref q_M), (1, .int x1), (2, .int x2), (3, .int x3), (4, .int x4)]) hx hb dX11_tells_1 hl (by decide) rfl (fun ls hl => ?_)
  refine lv_iconst (v := 0) hx hb dX11_tells_3 (by decide) ?_
  refine lv_istore (lv' := [(6, .int 0), (5, .int 0), (0, .ref q_M), (1, .int x1), (2, .int x2), (3, .int x3), (4, .int x4)]) hx hb dX11_tells_4 hl (by decide) rfl (fun ls hl => ?_)
  exact B6 zF 0 0 a_M_heap _ _ _ (lv_sub hl [2, 3, 4, 5, 6, 1, 0] rfl) hP hD hS hg

/-! SpokenClockModel.worth(IIIIZ)I -/
abbrev ws_X11_worth (cI cJ cZ cA : ClassId) (q_M q_M_talking q_M_now q_M_heap q_M_act : Nat) (u_M_images : Value) (u_M_kept : Value) (u_M_text : Value) (u_M_size : Value) (u_M_sign : Value) (u_M_manyAbove : Value) (u_M_manyBelow : Value) (u_M_above : Value) (u_M_below : Value) (u_M_refused : Value) (u_M_at : Value) (u_M_begin : Value) (u_M_kind : Value) (u_M_value : Value) (u_M_read : Value) (u_M_waits : Value) (u_M_wait : Value) (u_M_held : Value) (u_M_place : Value) (u_M_clocks : Value) (u_M_counts : Value) (u_M_most : Value) (u_M_hasA : Value) (u_M_hasB : Value) (u_M_talks : Value) (u_M_big : Value) (v_M_acts : Int32) (a_M_talking : Nat → Int32) (a_M_now : Nat → Int32) (a_M_heap : Nat → Int64) (a_M_act : Nat → Int32) : va_W := [(q_M, .inr (11, [.ref q_M_now, u_M_images, u_M_kept, u_M_text, u_M_size, u_M_sign, u_M_manyAbove, u_M_manyBelow, u_M_above, u_M_below, u_M_refused, u_M_at, u_M_begin, u_M_kind, u_M_value, u_M_read, .int v_M_acts, .ref q_M_act, u_M_waits, u_M_wait, u_M_held, u_M_place, .ref q_M_heap, u_M_clocks, u_M_counts, .ref q_M_talking, u_M_most, u_M_hasA, u_M_hasB, u_M_talks, u_M_big])), (q_M_talking, .inl (cZ, 1200, .inl a_M_talking)), (q_M_now, .inl (cI, 155, .inl a_M_now)), (q_M_heap, .inl (cJ, 41, .inr (.inl a_M_heap))), (q_M_act, .inl (cI, 80, .inl a_M_act))]
abbrev rm_X11_worth : Room := { frames := 2, cells := 0, slots := 0, locals := 51 }
def g_X11_worth (v_M_acts : Int32) (a_M_talking : Nat → Int32) (a_M_now : Nat → Int32) (a_M_act : Nat → Int32) (x1 : Int32) (x2 : Int32) (x3 : Int32) (x4 : Int32) (x5 : Int32) (a_M_heap : Nat → Int64) : Option (Int32 × (Nat → Int64)) :=
  if ((240 * x1) + x3) < 0 ∨ 1200 ≤ ((240 * x1) + x3).toNatClampNeg then none else
  if (a_M_talking (((240 * x1) + x3).toNatClampNeg)) = 0 then (
    some (0, a_M_heap)
  ) else (
    if (13 + x1) < 0 ∨ 155 ≤ (13 + x1).toNatClampNeg then none else
    if (a_M_now ((13 + x1).toNatClampNeg)) = 1 then (
      some (2, a_M_heap)
    ) else
    if (a_M_now ((13 + x1).toNatClampNeg)) = 2 then (
      some (a_M_now 1, a_M_heap)
    ) else
    if (a_M_now ((13 + x1).toNatClampNeg)) = 3 then (
      if (x3 - x3 / 3 * 3) = 0 then (
        some (1, a_M_heap)
      ) else (
        some (0, a_M_heap)
      )
    ) else
    if (a_M_now ((13 + x1).toNatClampNeg)) = 4 then (
      if x5 = 0 then (
        some (0, a_M_heap)
      ) else (
        (g_X11_tells v_M_acts a_M_act a_M_now x2 x3 x4 x1 a_M_heap).bind fun v3 =>
        if (lg_cmp v3.1 (0 : Int64)) = 0 then (
          some (0, v3.2)
        ) else (
          some (a_M_now 1, v3.2)
        )
      )
    ) else
    if (a_M_now ((13 + x1).toNatClampNeg)) = 5 then (
      if (a_M_now 2) ≤ x2 then (
        some (0, a_M_heap)
      ) else (
        some (1, a_M_heap)
      )
    ) else
    (
      some (1, a_M_heap)
    )
  )
theorem hd_X11_worth : yX11_worth.cls = RX11 ∧ yX11_worth.cls ≠ "java/lang/invoke/MethodHandle" ∧ yX11_worth.cls ≠ "java/lang/invoke/VarHandle" ∧ (parseMethodDescriptor yX11_worth.desc).map (fun d => d.parameters.length) = some 5 := by decide +kernel
set_option maxHeartbeats 4000000 in
set_option maxRecDepth 100000 in
theorem c_X11_worth (l : Launch) (D : va_G) (cI cJ cZ cA : ClassId) (ga : Nat → Nat) (q_M q_M_talking q_M_now q_M_heap q_M_act : Nat) (u_M_images : Value) (u_M_kept : Value) (u_M_text : Value) (u_M_size : Value) (u_M_sign : Value) (u_M_manyAbove : Value) (u_M_manyBelow : Value) (u_M_above : Value) (u_M_below : Value) (u_M_refused : Value) (u_M_at : Value) (u_M_begin : Value) (u_M_kind : Value) (u_M_value : Value) (u_M_read : Value) (u_M_waits : Value) (u_M_wait : Value) (u_M_held : Value) (u_M_place : Value) (u_M_clocks : Value) (u_M_counts : Value) (u_M_most : Value) (u_M_hasA : Value) (u_M_hasB : Value) (u_M_talks : Value) (u_M_big : Value) (v_M_acts : Int32) (a_M_talking : Nat → Int32) (a_M_now : Nat → Int32) (a_M_heap : Nat → Int64) (a_M_act : Nat → Int32) (x1 : Int32) (x2 : Int32) (x3 : Int32) (x4 : Int32) (x5 : Int32) (o : Int32 × (Nat → Int64)) (hg : g_X11_worth v_M_acts a_M_talking a_M_now a_M_act x1 x2 x3 x4 x5 a_M_heap = some o) : zM l yX11_worth (Cond.code yX11_worth cX11_worth 6 (some .int) :: wsL_law) rm_X11_worth D (zTy cI cJ cZ cA) ga [.ref q_M, .int x1, .int x2, .int x3, .int x4, .int x5] (ws_X11_worth cI cJ cZ cA q_M q_M_talking q_M_now q_M_heap q_M_act u_M_images u_M_kept u_M_text u_M_size u_M_sign u_M_manyAbove u_M_manyBelow u_M_above u_M_below u_M_refused u_M_at u_M_begin u_M_kind u_M_value u_M_read u_M_waits u_M_wait u_M_held u_M_place u_M_clocks u_M_counts u_M_most u_M_hasA u_M_hasB u_M_talks u_M_big v_M_acts a_M_talking a_M_now a_M_heap a_M_act) (ws_X11_worth cI cJ cZ cA q_M q_M_talking q_M_now q_M_heap q_M_act u_M_images u_M_kept u_M_text u_M_size u_M_sign u_M_manyAbove u_M_manyBelow u_M_above u_M_below u_M_refused u_M_at u_M_begin u_M_kind u_M_value u_M_read u_M_waits u_M_wait u_M_held u_M_place u_M_clocks u_M_counts u_M_most u_M_hasA u_M_hasB u_M_talks u_M_big v_M_acts a_M_talking a_M_now o.2 a_M_act) (some (.int o.1)) := by
  refine zenterI (own := RX11) (by decide) rfl rfl (Nat.le_of_ble_eq_true rfl) ?_
  intro p e s m args below meth c A ls Q S hA hK hG hl hP hD hS hret0
  have hx := S.1
  have hb := S.2.1
  have ht : ∀ w, w ∈ wsL_law → w.before args s = true := fun w h => S.2.2.2.2 w (List.mem_cons_of_mem _ h)
  have hret : ∀ (r9 : Int32) (a_M_heap : Nat → Int64), (some (r9, a_M_heap) : Option (Int32 × (Nat → Int64))) = some o → ∀ (H : Heap) (locs : List Loc) (pc : Nat) (ls : Array Slot), va_P D vwCl (ws_X11_worth cI cJ cZ cA q_M q_M_talking q_M_now q_M_heap q_M_act u_M_images u_M_kept u_M_text u_M_size u_M_sign u_M_manyAbove u_M_manyBelow u_M_above u_M_below u_M_refused u_M_at u_M_begin u_M_kind u_M_value u_M_read u_M_waits u_M_wait u_M_held u_M_place u_M_clocks u_M_counts u_M_most u_M_hasA u_M_hasB u_M_talks u_M_big v_M_acts a_M_talking a_M_now a_M_heap a_M_act) H → va_S A s.heap H locs → decode cX11_worth pc = .ok (.ireturn, 1) → W p l e rm_X11_worth s m args below meth c H locs 0 0 Q (F0 m pc ls [.int r9]) := by
    intro r9 a_M_heap he; cases he; exact hret0
  have hl : lv_has ls 6 [(0, .ref q_M), (1, .int x1), (2, .int x2), (3, .int x3), (4, .int x4), (5, .int x5)] := hl
  refine lv_aload_n hx hb dX11_worth_0 rfl (lv_at hl 0 rfl) ?_
  refine zget (C := RX11) (T := TX11) (N := 31) S hK hP 0 rfl rfl 25 (Nat.le_of_ble_eq_true rfl) zf_11 zw_164 rfl dX11_worth_1 ?_
  refine lv_sipush (v := 240) hx hb dX11_worth_4 (by decide) ?_
  refine lv_iload_n hx hb dX11_worth_7 rfl (lv_at hl 1 rfl) ?_
  refine lv_imul hx hb dX11_worth_8 ?_
  refine lv_iload_n hx hb dX11_worth_9 rfl (lv_at hl 3 rfl) ?_
  refine lv_iadd hx hb dX11_worth_10 ?_
  obtain ⟨h1, hg⟩ := zck hg
  refine zzald hx hb hK hP 1 2 rfl rfl (j := (((240 * x1) + x3).toNatClampNeg)) h1 rfl dX11_worth_11 ?_
  refine lv_if_ne (tgt := 17) hx hb dX11_worth_12 (by decide) (fun h12 => ?_) (fun h12 => ?_)
  · have hg := zn hg h12
    refine lv_aload_n hx hb dX11_worth_17 rfl (lv_at hl 0 rfl) ?_
    refine zget (C := RX11) (T := TX11) (N := 31) S hK hP 0 rfl rfl 0 (Nat.le_of_ble_eq_true rfl) zf_11 zw_149 rfl dX11_worth_18 ?_
    refine lv_bipush (v := 13) hx hb dX11_worth_21 (by decide) ?_
    refine lv_iload_n hx hb dX11_worth_23 rfl (lv_at hl 1 rfl) ?_
    refine lv_iadd hx hb dX11_worth_24 ?_
    obtain ⟨h2, hg⟩ := zck hg
    refine ziald hx hb hK hP 2 0 rfl rfl (j := ((13 + x1).toNatClampNeg)) h2 rfl dX11_worth_25 ?_
    by_cases h26_1 : (a_M_now ((13 + x1).toNatClampNeg)) = 1
    · have hg := zp hg h26_1
      refine lv_tableIn (tgt := 60) hx hb dX11_worth_26 (by rw [h26_1]; decide) (by rw [h26_1]; decide) (by rw [h26_1]; rfl) (by decide) ?_
      refine lv_iconst (v := 2) hx hb dX11_worth_60 (by decide) ?_
      exact hret 2 a_M_heap hg _ _ _ _ hP hS dX11_worth_61
    · have hg := zn hg h26_1
      by_cases h26_2 : (a_M_now ((13 + x1).toNatClampNeg)) = 2
      · have hg := zp hg h26_2
        refine lv_tableIn (tgt := 62) hx hb dX11_worth_26 (by rw [h26_2]; decide) (by rw [h26_2]; decide) (by rw [h26_2]; rfl) (by decide) ?_
        refine lv_aload_n hx hb dX11_worth_62 rfl (lv_at hl 0 rfl) ?_
        refine zget (C := RX11) (T := TX11) (N := 31) S hK hP 0 rfl rfl 0 (Nat.le_of_ble_eq_true rfl) zf_11 zw_149 rfl dX11_worth_63 ?_
        refine lv_iconst (v := 1) hx hb dX11_worth_66 (by decide) ?_
        refine ziald hx hb hK hP 2 0 rfl rfl (j := 1) (zin (by decide)) (by decide) dX11_worth_67 ?_
        exact hret (a_M_now 1) a_M_heap hg _ _ _ _ hP hS dX11_worth_68
      · have hg := zn hg h26_2
        by_cases h26_3 : (a_M_now ((13 + x1).toNatClampNeg)) = 3
        · have hg := zp hg h26_3
          refine lv_tableIn (tgt := 69) hx hb dX11_worth_26 (by rw [h26_3]; decide) (by rw [h26_3]; decide) (by rw [h26_3]; rfl) (by decide) ?_
          refine lv_iload_n hx hb dX11_worth_69 rfl (lv_at hl 3 rfl) ?_
          refine lv_iconst (v := 3) hx hb dX11_worth_70 (by decide) ?_
          refine lv_irem hx hb dX11_worth_71 (by decide) ?_
          refine lv_if_ne (tgt := 79) hx hb dX11_worth_72 (by decide) (fun h72 => ?_) (fun h72 => ?_)
          · have hg := zn hg h72
            refine lv_iconst (v := 0) hx hb dX11_worth_79 (by decide) ?_
            exact hret 0 a_M_heap hg _ _ _ _ hP hS dX11_worth_80
          · have hg := zp hg h72
            refine lv_iconst (v := 1) hx hb dX11_worth_75 (by decide) ?_
            refine lv_goto (tgt := 80) hx hb dX11_worth_76 (by decide) ?_
            exact hret 1 a_M_heap hg _ _ _ _ hP hS dX11_worth_80
        · have hg := zn hg h26_3
          by_cases h26_4 : (a_M_now ((13 + x1).toNatClampNeg)) = 4
          · have hg := zp hg h26_4
            refine lv_tableIn (tgt := 81) hx hb dX11_worth_26 (by rw [h26_4]; decide) (by rw [h26_4]; decide) (by rw [h26_4]; rfl) (by decide) ?_
            refine lv_iload hx hb dX11_worth_81 (lv_at hl 5 rfl) ?_
            refine lv_if_eq (tgt := 109) hx hb dX11_worth_83 (by decide) (fun h83 => ?_) (fun h83 => ?_)
            · have hg := zp hg h83
              refine lv_iconst (v := 0) hx hb dX11_worth_109 (by decide) ?_
              exact hret 0 a_M_heap hg _ _ _ _ hP hS dX11_worth_110
            · have hg := zn hg h83
              refine lv_aload_n hx hb dX11_worth_86 rfl (lv_at hl 0 rfl) ?_
              refine lv_iload_n hx hb dX11_worth_87 rfl (lv_at hl 2 rfl) ?_
              refine lv_iload_n hx hb dX11_worth_88 rfl (lv_at hl 3 rfl) ?_
              refine lv_iload hx hb dX11_worth_89 (lv_at hl 4 rfl) ?_
              refine lv_iload_n hx hb dX11_worth_91 rfl (lv_at hl 1 rfl) ?_
              obtain ⟨v3, hc4, hg⟩ := zbd hg
              refine zcallV (rest := []) S (c_X11_tells l D cI cJ cZ cA ga q_M q_M_heap q_M_act q_M_now u_M_images u_M_kept u_M_text u_M_size u_M_sign u_M_manyAbove u_M_manyBelow u_M_above u_M_below u_M_refused u_M_at u_M_begin u_M_kind u_M_value u_M_read u_M_waits u_M_wait u_M_held u_M_place u_M_clocks u_M_counts (.ref q_M_talking) u_M_most u_M_hasA u_M_hasB u_M_talks u_M_big v_M_acts a_M_heap a_M_act a_M_now x2 x3 x4 x1 v3 hc4) (zgV zw_686 zw_687 zw_688 zw_5 zw_689) rfl hd_X11_tells ⟨rfl, rfl⟩ ⟨Nat.le_of_ble_eq_true rfl, Nat.le_of_ble_eq_true rfl⟩ 0 11 rfl rfl rfl hl.1 rfl (Nat.le_of_ble_eq_true rfl) dX11_worth_92 hP hD hS hA hK hG (isC := [0, 3, 4, 2]) rfl (by decide +kernel) rfl ⟨Nat.zero_le _, Nat.zero_le _⟩ (pl := [some 0, none, some 3, some 1, some 2]) (nw := 5) rfl (by decide +kernel) (w2 := (ws_X11_worth cI cJ cZ cA q_M q_M_talking q_M_now q_M_heap q_M_act u_M_images u_M_kept u_M_text u_M_size u_M_sign u_M_manyAbove u_M_manyBelow u_M_above u_M_below u_M_refused u_M_at u_M_begin u_M_kind u_M_value u_M_read u_M_waits u_M_wait u_M_held u_M_place u_M_clocks u_M_counts u_M_most u_M_hasA u_M_hasB u_M_talks u_M_big v_M_acts a_M_talking a_M_now v3.2 a_M_act)) rfl (st1 := [.long v3.1]) rfl (fun H locs hP hD hS => ?_)
              refine lv_lconst (v := 0) hx hb dX11_worth_95 (by decide) ?_
              refine W.lcmp hx hb dX11_worth_96 ?_
              refine lv_if_eq (tgt := 109) hx hb dX11_worth_97 (by decide) (fun h97 => ?_) (fun h97 => ?_)
              · have hg := zp hg h97
                refine lv_iconst (v := 0) hx hb dX11_worth_109 (by decide) ?_
                exact hret 0 v3.2 hg _ _ _ _ hP hS dX11_worth_110
              · have hg := zn hg h97
                refine lv_aload_n hx hb dX11_worth_100 rfl (lv_at hl 0 rfl) ?_
                refine zget (C := RX11) (T := TX11) (N := 31) S hK hP 0 rfl rfl 0 (Nat.le_of_ble_eq_true rfl) zf_11 zw_149 rfl dX11_worth_101 ?_
                refine lv_iconst (v := 1) hx hb dX11_worth_104 (by decide) ?_
                refine ziald hx hb hK hP 2 0 rfl rfl (j := 1) (zin (by decide)) (by decide) dX11_worth_105 ?_
                refine lv_goto (tgt := 110) hx hb dX11_worth_106 (by decide) ?_
                exact hret (a_M_now 1) v3.2 hg _ _ _ _ hP hS dX11_worth_110
          · have hg := zn hg h26_4
            by_cases h26_5 : (a_M_now ((13 + x1).toNatClampNeg)) = 5
            · have hg := zp hg h26_5
              refine lv_tableIn (tgt := 111) hx hb dX11_worth_26 (by rw [h26_5]; decide) (by rw [h26_5]; decide) (by rw [h26_5]; rfl) (by decide) ?_
              refine lv_iload_n hx hb dX11_worth_111 rfl (lv_at hl 2 rfl) ?_
              refine lv_aload_n hx hb dX11_worth_112 rfl (lv_at hl 0 rfl) ?_
              refine zget (C := RX11) (T := TX11) (N := 31) S hK hP 0 rfl rfl 0 (Nat.le_of_ble_eq_true rfl) zf_11 zw_149 rfl dX11_worth_113 ?_
              refine lv_iconst (v := 2) hx hb dX11_worth_116 (by decide) ?_
              refine ziald hx hb hK hP 2 0 rfl rfl (j := 2) (zin (by decide)) (by decide) dX11_worth_117 ?_
              refine lv_icmp_ge (tgt := 125) hx hb dX11_worth_118 (by decide) (fun h118 => ?_) (fun h118 => ?_)
              · have hg := zp hg h118
                refine lv_iconst (v := 0) hx hb dX11_worth_125 (by decide) ?_
                exact hret 0 a_M_heap hg _ _ _ _ hP hS dX11_worth_126
              · have hg := zn hg h118
                refine lv_iconst (v := 1) hx hb dX11_worth_121 (by decide) ?_
                refine lv_goto (tgt := 126) hx hb dX11_worth_122 (by decide) ?_
                exact hret 1 a_M_heap hg _ _ _ _ hP hS dX11_worth_126
            · have hg := zn hg h26_5
              refine lv_tableOut (tgt := 127) hx hb dX11_worth_26 (by have a0 := lv_neT h26_1 (a := 1) (by decide); have a1 := lv_neT h26_2 (a := 2) (by decide); have a2 := lv_neT h26_3 (a := 3) (by decide); have a3 := lv_neT h26_4 (a := 4) (by decide); have a4 := lv_neT h26_5 (a := 5) (by decide); omega) (by decide) ?_
              refine lv_iconst (v := 1) hx hb dX11_worth_127 (by decide) ?_
              exact hret 1 a_M_heap hg _ _ _ _ hP hS dX11_worth_128
  · have hg := zp hg h12
    refine lv_iconst (v := 0) hx hb dX11_worth_15 (by decide) ?_
    exact hret 0 a_M_heap hg _ _ _ _ hP hS dX11_worth_16

/-! SpokenClockModel.winds(I)V -/
abbrev ws_X11_winds (cI cJ cZ cA : ClassId) (q_M q_M_held q_M_now q_M_wait q_M_act q_M_clocks q_M_counts q_M_talking q_M_heap : Nat) (u_M_images : Value) (u_M_kept : Value) (u_M_text : Value) (u_M_size : Value) (u_M_sign : Value) (u_M_manyAbove : Value) (u_M_manyBelow : Value) (u_M_above : Value) (u_M_below : Value) (u_M_refused : Value) (u_M_at : Value) (u_M_begin : Value) (u_M_kind : Value) (u_M_value : Value) (u_M_read : Value) (u_M_most : Value) (u_M_hasA : Value) (u_M_hasB : Value) (u_M_talks : Value) (u_M_big : Value) (v_M_acts : Int32) (v_M_waits : Int32) (v_M_place : Int32) (a_M_held : Nat → Int32) (a_M_now : Nat → Int32) (a_M_wait : Nat → Int32) (a_M_act : Nat → Int32) (a_M_clocks : Nat → Int32) (a_M_counts : Nat → Int32) (a_M_talking : Nat → Int32) (a_M_heap : Nat → Int64) : va_W := [(q_M, .inr (11, [.ref q_M_now, u_M_images, u_M_kept, u_M_text, u_M_size, u_M_sign, u_M_manyAbove, u_M_manyBelow, u_M_above, u_M_below, u_M_refused, u_M_at, u_M_begin, u_M_kind, u_M_value, u_M_read, .int v_M_acts, .ref q_M_act, .int v_M_waits, .ref q_M_wait, .ref q_M_held, .int v_M_place, .ref q_M_heap, .ref q_M_clocks, .ref q_M_counts, .ref q_M_talking, u_M_most, u_M_hasA, u_M_hasB, u_M_talks, u_M_big])), (q_M_held, .inl (cZ, 9, .inl a_M_held)), (q_M_now, .inl (cI, 155, .inl a_M_now)), (q_M_wait, .inl (cI, 80, .inl a_M_wait)), (q_M_act, .inl (cI, 80, .inl a_M_act)), (q_M_clocks, .inl (cI, 482, .inl a_M_clocks)), (q_M_counts, .inl (cI, 1200, .inl a_M_counts)), (q_M_talking, .inl (cZ, 1200, .inl a_M_talking)), (q_M_heap, .inl (cJ, 41, .inr (.inl a_M_heap)))]
abbrev rm_X11_winds : Room := { frames := 4, cells := 0, slots := 0, locals := 93 }
def g_X11_winds_286 (a_M_now : Nat → Int32) (x1 : Int32) (k109 : Int32 → Int32 → Int32 → Int32 → Int32 → (Nat → Int32) → (Nat → Int32) → (Nat → Int32) → (Nat → Int32) → (Nat → Int32) → (Nat → Int32) → (Nat → Int64) → Option (Int32 × Int32 × Int32 × (Nat → Int32) × (Nat → Int32) × (Nat → Int32) × (Nat → Int32) × (Nat → Int32) × (Nat → Int32) × (Nat → Int64))) (k128 : Int32 → Int32 → Int32 → Int32 → Int32 → Int32 → (Nat → Int32) → (Nat → Int32) → (Nat → Int32) → (Nat → Int32) → (Nat → Int32) → (Nat → Int32) → (Nat → Int64) → Option (Int32 × Int32 × Int32 × (Nat → Int32) × (Nat → Int32) × (Nat → Int32) × (Nat → Int32) × (Nat → Int32) × (Nat → Int32) × (Nat → Int64))) (x2 : Int32) (x3 : Int32) (x4 : Int32) (t1 : Int32) (t2 : Int32) (t3 : Int32) (v_M_acts : Int32) (v_M_waits : Int32) (v_M_place : Int32) (a_M_held : Nat → Int32) (a_M_wait : Nat → Int32) (a_M_act : Nat → Int32) (a_M_clocks : Nat → Int32) (a_M_counts : Nat → Int32) (a_M_talking : Nat → Int32) (a_M_heap : Nat → Int64) : Option (Int32 × Int32 × Int32 × (Nat → Int32) × (Nat → Int32) × (Nat → Int32) × (Nat → Int32) × (Nat → Int32) × (Nat → Int32) × (Nat → Int64)) :=
  if t1 < 0 ∨ 482 ≤ t1.toNatClampNeg then none else
  k128 x2 x3 (x4 + 1) v_M_acts v_M_waits v_M_place a_M_held a_M_wait a_M_act (upd a_M_clocks (t1.toNatClampNeg) (t2 + t3)) a_M_counts a_M_talking a_M_heap
def g_X11_winds_242 (a_M_now : Nat → Int32) (x1 : Int32) (k109 : Int32 → Int32 → Int32 → Int32 → Int32 → (Nat → Int32) → (Nat → Int32) → (Nat → Int32) → (Nat → Int32) → (Nat → Int32) → (Nat → Int32) → (Nat → Int64) → Option (Int32 × Int32 × Int32 × (Nat → Int32) × (Nat → Int32) × (Nat → Int32) × (Nat → Int32) × (Nat → Int32) × (Nat → Int32) × (Nat → Int64))) (k128 : Int32 → Int32 → Int32 → Int32 → Int32 → Int32 → (Nat → Int32) → (Nat → Int32) → (Nat → Int32) → (Nat → Int32) → (Nat → Int32) → (Nat → Int32) → (Nat → Int64) → Option (Int32 × Int32 × Int32 × (Nat → Int32) × (Nat → Int32) × (Nat → Int32) × (Nat → Int32) × (Nat → Int32) × (Nat → Int32) × (Nat → Int64))) (k157 : Int32 → Int32 → Int32 → Int32 → Int32 → Int32 → Int32 → Int32 → Int32 → (Nat → Int32) → (Nat → Int32) → (Nat → Int32) → (Nat → Int32) → (Nat → Int32) → (Nat → Int32) → (Nat → Int64) → Option (Int32 × Int32 × Int32 × (Nat → Int32) × (Nat → Int32) × (Nat → Int32) × (Nat → Int32) × (Nat → Int32) × (Nat → Int32) × (Nat → Int64))) (x2 : Int32) (x3 : Int32) (x4 : Int32) (x5 : Int32) (x6 : Int32) (x7 : Int32) (v_M_acts : Int32) (v_M_waits : Int32) (v_M_place : Int32) (a_M_held : Nat → Int32) (a_M_wait : Nat → Int32) (a_M_act : Nat → Int32) (a_M_clocks : Nat → Int32) (a_M_counts : Nat → Int32) (a_M_talking : Nat → Int32) (a_M_heap : Nat → Int64) : Option (Int32 × Int32 × Int32 × (Nat → Int32) × (Nat → Int32) × (Nat → Int32) × (Nat → Int32) × (Nat → Int32) × (Nat → Int32) × (Nat → Int64)) :=
  k157 x2 x3 x4 x5 x6 (x7 + 1) v_M_acts v_M_waits v_M_place a_M_held a_M_wait a_M_act a_M_clocks a_M_counts a_M_talking a_M_heap
def g_X11_winds_222 (a_M_now : Nat → Int32) (x1 : Int32) (k109 : Int32 → Int32 → Int32 → Int32 → Int32 → (Nat → Int32) → (Nat → Int32) → (Nat → Int32) → (Nat → Int32) → (Nat → Int32) → (Nat → Int32) → (Nat → Int64) → Option (Int32 × Int32 × Int32 × (Nat → Int32) × (Nat → Int32) × (Nat → Int32) × (Nat → Int32) × (Nat → Int32) × (Nat → Int32) × (Nat → Int64))) (k128 : Int32 → Int32 → Int32 → Int32 → Int32 → Int32 → (Nat → Int32) → (Nat → Int32) → (Nat → Int32) → (Nat → Int32) → (Nat → Int32) → (Nat → Int32) → (Nat → Int64) → Option (Int32 × Int32 × Int32 × (Nat → Int32) × (Nat → Int32) × (Nat → Int32) × (Nat → Int32) × (Nat → Int32) × (Nat → Int32) × (Nat → Int64))) (k157 : Int32 → Int32 → Int32 → Int32 → Int32 → Int32 → Int32 → Int32 → Int32 → (Nat → Int32) → (Nat → Int32) → (Nat → Int32) → (Nat → Int32) → (Nat → Int32) → (Nat → Int32) → (Nat → Int64) → Option (Int32 × Int32 × Int32 × (Nat → Int32) × (Nat → Int32) × (Nat → Int32) × (Nat → Int32) × (Nat → Int32) × (Nat → Int32) × (Nat → Int64))) (x2 : Int32) (x3 : Int32) (x4 : Int32) (x5 : Int32) (x6 : Int32) (x7 : Int32) (t1 : Int32) (t2 : Int32) (v_M_acts : Int32) (v_M_waits : Int32) (v_M_place : Int32) (a_M_held : Nat → Int32) (a_M_wait : Nat → Int32) (a_M_act : Nat → Int32) (a_M_clocks : Nat → Int32) (a_M_counts : Nat → Int32) (a_M_talking : Nat → Int32) (a_M_heap : Nat → Int64) : Option (Int32 × Int32 × Int32 × (Nat → Int32) × (Nat → Int32) × (Nat → Int32) × (Nat → Int32) × (Nat → Int32) × (Nat → Int32) × (Nat → Int64)) :=
  if t1 < 0 ∨ 1200 ≤ t1.toNatClampNeg then none else
  if ((240 * x7) + x4) < 0 ∨ 1200 ≤ ((240 * x7) + x4).toNatClampNeg then none else
  g_X11_winds_242 a_M_now x1 k109 k128 k157 x2 x3 x4 x5 (x6 + ((upd a_M_counts (t1.toNatClampNeg) t2) (((240 * x7) + x4).toNatClampNeg))) x7 v_M_acts v_M_waits v_M_place a_M_held a_M_wait a_M_act a_M_clocks (upd a_M_counts (t1.toNatClampNeg) t2) a_M_talking a_M_heap
def g_X11_winds_157b (a_M_now : Nat → Int32) (x1 : Int32) (k109 : Int32 → Int32 → Int32 → Int32 → Int32 → (Nat → Int32) → (Nat → Int32) → (Nat → Int32) → (Nat → Int32) → (Nat → Int32) → (Nat → Int32) → (Nat → Int64) → Option (Int32 × Int32 × Int32 × (Nat → Int32) × (Nat → Int32) × (Nat → Int32) × (Nat → Int32) × (Nat → Int32) × (Nat → Int32) × (Nat → Int64))) (k128 : Int32 → Int32 → Int32 → Int32 → Int32 → Int32 → (Nat → Int32) → (Nat → Int32) → (Nat → Int32) → (Nat → Int32) → (Nat → Int32) → (Nat → Int32) → (Nat → Int64) → Option (Int32 × Int32 × Int32 × (Nat → Int32) × (Nat → Int32) × (Nat → Int32) × (Nat → Int32) × (Nat → Int32) × (Nat → Int32) × (Nat → Int64))) (k157 : Int32 → Int32 → Int32 → Int32 → Int32 → Int32 → Int32 → Int32 → Int32 → (Nat → Int32) → (Nat → Int32) → (Nat → Int32) → (Nat → Int32) → (Nat → Int32) → (Nat → Int32) → (Nat → Int64) → Option (Int32 × Int32 × Int32 × (Nat → Int32) × (Nat → Int32) × (Nat → Int32) × (Nat → Int32) × (Nat → Int32) × (Nat → Int32) × (Nat → Int64))) (x2 : Int32) (x3 : Int32) (x4 : Int32) (x5 : Int32) (x6 : Int32) (x7 : Int32) (v_M_acts : Int32) (v_M_waits : Int32) (v_M_place : Int32) (a_M_held : Nat → Int32) (a_M_wait : Nat → Int32) (a_M_act : Nat → Int32) (a_M_clocks : Nat → Int32) (a_M_counts : Nat → Int32) (a_M_talking : Nat → Int32) (a_M_heap : Nat → Int64) : Option (Int32 × Int32 × Int32 × (Nat → Int32) × (Nat → Int32) × (Nat → Int32) × (Nat → Int32) × (Nat → Int32) × (Nat → Int32) × (Nat → Int64)) :=
  if (a_M_now 3) ≤ x7 then (
    if (a_M_now 0) ≤ x6 then (
      g_X11_winds_286 a_M_now x1 k109 k128 x2 x3 x4 (((241 * x3) + x4) + 1) x5 (a_M_now 0) v_M_acts v_M_waits v_M_place a_M_held a_M_wait a_M_act a_M_clocks a_M_counts a_M_talking a_M_heap
    ) else (
      g_X11_winds_286 a_M_now x1 k109 k128 x2 x3 x4 (((241 * x3) + x4) + 1) x5 x6 v_M_acts v_M_waits v_M_place a_M_held a_M_wait a_M_act a_M_clocks a_M_counts a_M_talking a_M_heap
    )
  ) else (
    if (18 + x7) < 0 ∨ 155 ≤ (18 + x7).toNatClampNeg then none else
    if (a_M_now ((18 + x7).toNatClampNeg)) = x3 then (
      if ((x1 >>> (x7 &&& 31)) &&& 1) = 1 then (
        (g_X11_worth v_M_acts a_M_talking a_M_now a_M_act x7 x5 x4 x6 x2 a_M_heap).bind fun v9 =>
        g_X11_winds_222 a_M_now x1 k109 k128 k157 x2 x3 x4 x5 x6 x7 ((240 * x7) + x4) v9.1 v_M_acts v_M_waits v_M_place a_M_held a_M_wait a_M_act a_M_clocks a_M_counts a_M_talking v9.2
      ) else (
        g_X11_winds_222 a_M_now x1 k109 k128 k157 x2 x3 x4 x5 x6 x7 ((240 * x7) + x4) 0 v_M_acts v_M_waits v_M_place a_M_held a_M_wait a_M_act a_M_clocks a_M_counts a_M_talking a_M_heap
      )
    ) else (
      g_X11_winds_242 a_M_now x1 k109 k128 k157 x2 x3 x4 x5 x6 x7 v_M_acts v_M_waits v_M_place a_M_held a_M_wait a_M_act a_M_clocks a_M_counts a_M_talking a_M_heap
    )
  )
def g_X11_winds_157 (a_M_now : Nat → Int32) (x1 : Int32) (k109 : Int32 → Int32 → Int32 → Int32 → Int32 → (Nat → Int32) → (Nat → Int32) → (Nat → Int32) → (Nat → Int32) → (Nat → Int32) → (Nat → Int32) → (Nat → Int64) → Option (Int32 × Int32 × Int32 × (Nat → Int32) × (Nat → Int32) × (Nat → Int32) × (Nat → Int32) × (Nat → Int32) × (Nat → Int32) × (Nat → Int64))) (k128 : Int32 → Int32 → Int32 → Int32 → Int32 → Int32 → (Nat → Int32) → (Nat → Int32) → (Nat → Int32) → (Nat → Int32) → (Nat → Int32) → (Nat → Int32) → (Nat → Int64) → Option (Int32 × Int32 × Int32 × (Nat → Int32) × (Nat → Int32) × (Nat → Int32) × (Nat → Int32) × (Nat → Int32) × (Nat → Int32) × (Nat → Int64))) : Nat → Int32 → Int32 → Int32 → Int32 → Int32 → Int32 → Int32 → Int32 → Int32 → (Nat → Int32) → (Nat → Int32) → (Nat → Int32) → (Nat → Int32) → (Nat → Int32) → (Nat → Int32) → (Nat → Int64) → Option (Int32 × Int32 × Int32 × (Nat → Int32) × (Nat → Int32) × (Nat → Int32) × (Nat → Int32) × (Nat → Int32) × (Nat → Int32) × (Nat → Int64))
  | 0, _, _, _, _, _, _, _, _, _, _, _, _, _, _, _, _ => none
  | n + 1, x2, x3, x4, x5, x6, x7, v_M_acts, v_M_waits, v_M_place, a_M_held, a_M_wait, a_M_act, a_M_clocks, a_M_counts, a_M_talking, a_M_heap => g_X11_winds_157b a_M_now x1 k109 k128 (g_X11_winds_157 a_M_now x1 k109 k128 n) x2 x3 x4 x5 x6 x7 v_M_acts v_M_waits v_M_place a_M_held a_M_wait a_M_act a_M_clocks a_M_counts a_M_talking a_M_heap
def g_X11_winds_128b (a_M_now : Nat → Int32) (x1 : Int32) (k109 : Int32 → Int32 → Int32 → Int32 → Int32 → (Nat → Int32) → (Nat → Int32) → (Nat → Int32) → (Nat → Int32) → (Nat → Int32) → (Nat → Int32) → (Nat → Int64) → Option (Int32 × Int32 × Int32 × (Nat → Int32) × (Nat → Int32) × (Nat → Int32) × (Nat → Int32) × (Nat → Int32) × (Nat → Int32) × (Nat → Int64))) (k128 : Int32 → Int32 → Int32 → Int32 → Int32 → Int32 → (Nat → Int32) → (Nat → Int32) → (Nat → Int32) → (Nat → Int32) → (Nat → Int32) → (Nat → Int32) → (Nat → Int64) → Option (Int32 × Int32 × Int32 × (Nat → Int32) × (Nat → Int32) × (Nat → Int32) × (Nat → Int32) × (Nat → Int32) × (Nat → Int32) × (Nat → Int64))) (x2 : Int32) (x3 : Int32) (x4 : Int32) (v_M_acts : Int32) (v_M_waits : Int32) (v_M_place : Int32) (a_M_held : Nat → Int32) (a_M_wait : Nat → Int32) (a_M_act : Nat → Int32) (a_M_clocks : Nat → Int32) (a_M_counts : Nat → Int32) (a_M_talking : Nat → Int32) (a_M_heap : Nat → Int64) : Option (Int32 × Int32 × Int32 × (Nat → Int32) × (Nat → Int32) × (Nat → Int32) × (Nat → Int32) × (Nat → Int32) × (Nat → Int32) × (Nat → Int64)) :=
  if 240 ≤ x4 then (
    k109 x2 (x3 + 1) v_M_acts v_M_waits v_M_place a_M_held a_M_wait a_M_act a_M_clocks a_M_counts a_M_talking a_M_heap
  ) else (
    if ((241 * x3) + x4) < 0 ∨ 482 ≤ ((241 * x3) + x4).toNatClampNeg then none else
    g_X11_winds_157 a_M_now x1 k109 k128 zF x2 x3 x4 (a_M_clocks (((241 * x3) + x4).toNatClampNeg)) 0 0 v_M_acts v_M_waits v_M_place a_M_held a_M_wait a_M_act a_M_clocks a_M_counts a_M_talking a_M_heap
  )
def g_X11_winds_128 (a_M_now : Nat → Int32) (x1 : Int32) (k109 : Int32 → Int32 → Int32 → Int32 → Int32 → (Nat → Int32) → (Nat → Int32) → (Nat → Int32) → (Nat → Int32) → (Nat → Int32) → (Nat → Int32) → (Nat → Int64) → Option (Int32 × Int32 × Int32 × (Nat → Int32) × (Nat → Int32) × (Nat → Int32) × (Nat → Int32) × (Nat → Int32) × (Nat → Int32) × (Nat → Int64))) : Nat → Int32 → Int32 → Int32 → Int32 → Int32 → Int32 → (Nat → Int32) → (Nat → Int32) → (Nat → Int32) → (Nat → Int32) → (Nat → Int32) → (Nat → Int32) → (Nat → Int64) → Option (Int32 × Int32 × Int32 × (Nat → Int32) × (Nat → Int32) × (Nat → Int32) × (Nat → Int32) × (Nat → Int32) × (Nat → Int32) × (Nat → Int64))
  | 0, _, _, _, _, _, _, _, _, _, _, _, _, _ => none
  | n + 1, x2, x3, x4, v_M_acts, v_M_waits, v_M_place, a_M_held, a_M_wait, a_M_act, a_M_clocks, a_M_counts, a_M_talking, a_M_heap => g_X11_winds_128b a_M_now x1 k109 (g_X11_winds_128 a_M_now x1 k109 n) x2 x3 x4 v_M_acts v_M_waits v_M_place a_M_held a_M_wait a_M_act a_M_clocks a_M_counts a_M_talking a_M_heap
def g_X11_winds_109b (a_M_now : Nat → Int32) (x1 : Int32) (k109 : Int32 → Int32 → Int32 → Int32 → Int32 → (Nat → Int32) → (Nat → Int32) → (Nat → Int32) → (Nat → Int32) → (Nat → Int32) → (Nat → Int32) → (Nat → Int64) → Option (Int32 × Int32 × Int32 × (Nat → Int32) × (Nat → Int32) × (Nat → Int32) × (Nat → Int32) × (Nat → Int32) × (Nat → Int32) × (Nat → Int64))) (x2 : Int32) (x3 : Int32) (v_M_acts : Int32) (v_M_waits : Int32) (v_M_place : Int32) (a_M_held : Nat → Int32) (a_M_wait : Nat → Int32) (a_M_act : Nat → Int32) (a_M_clocks : Nat → Int32) (a_M_counts : Nat → Int32) (a_M_talking : Nat → Int32) (a_M_heap : Nat → Int64) : Option (Int32 × Int32 × Int32 × (Nat → Int32) × (Nat → Int32) × (Nat → Int32) × (Nat → Int32) × (Nat → Int32) × (Nat → Int32) × (Nat → Int64)) :=
  if 2 ≤ x3 then (
    some (v_M_acts, v_M_waits, v_M_place, a_M_held, a_M_wait, a_M_act, a_M_clocks, a_M_counts, a_M_talking, a_M_heap)
  ) else (
    if (241 * x3) < 0 ∨ 482 ≤ (241 * x3).toNatClampNeg then none else
    g_X11_winds_128 a_M_now x1 k109 zF x2 x3 0 v_M_acts v_M_waits v_M_place a_M_held a_M_wait a_M_act (upd a_M_clocks ((241 * x3).toNatClampNeg) 0) a_M_counts a_M_talking a_M_heap
  )
def g_X11_winds_109 (a_M_now : Nat → Int32) (x1 : Int32) : Nat → Int32 → Int32 → Int32 → Int32 → Int32 → (Nat → Int32) → (Nat → Int32) → (Nat → Int32) → (Nat → Int32) → (Nat → Int32) → (Nat → Int32) → (Nat → Int64) → Option (Int32 × Int32 × Int32 × (Nat → Int32) × (Nat → Int32) × (Nat → Int32) × (Nat → Int32) × (Nat → Int32) × (Nat → Int32) × (Nat → Int64))
  | 0, _, _, _, _, _, _, _, _, _, _, _, _ => none
  | n + 1, x2, x3, v_M_acts, v_M_waits, v_M_place, a_M_held, a_M_wait, a_M_act, a_M_clocks, a_M_counts, a_M_talking, a_M_heap => g_X11_winds_109b a_M_now x1 (g_X11_winds_109 a_M_now x1 n) x2 x3 v_M_acts v_M_waits v_M_place a_M_held a_M_wait a_M_act a_M_clocks a_M_counts a_M_talking a_M_heap
def g_X11_winds_59b (a_M_now : Nat → Int32) (x1 : Int32) (k38 : Int32 → Int32 → Int32 → Int32 → Int32 → (Nat → Int32) → (Nat → Int32) → (Nat → Int32) → (Nat → Int32) → (Nat → Int32) → (Nat → Int32) → (Nat → Int64) → Option (Int32 × Int32 × Int32 × (Nat → Int32) × (Nat → Int32) × (Nat → Int32) × (Nat → Int32) × (Nat → Int32) × (Nat → Int32) × (Nat → Int64))) (k59 : Int32 → Int32 → Int32 → Int32 → Int32 → Int32 → (Nat → Int32) → (Nat → Int32) → (Nat → Int32) → (Nat → Int32) → (Nat → Int32) → (Nat → Int32) → (Nat → Int64) → Option (Int32 × Int32 × Int32 × (Nat → Int32) × (Nat → Int32) × (Nat → Int32) × (Nat → Int32) × (Nat → Int32) × (Nat → Int32) × (Nat → Int64))) (x2 : Int32) (x3 : Int32) (x4 : Int32) (v_M_acts : Int32) (v_M_waits : Int32) (v_M_place : Int32) (a_M_held : Nat → Int32) (a_M_wait : Nat → Int32) (a_M_act : Nat → Int32) (a_M_clocks : Nat → Int32) (a_M_counts : Nat → Int32) (a_M_talking : Nat → Int32) (a_M_heap : Nat → Int64) : Option (Int32 × Int32 × Int32 × (Nat → Int32) × (Nat → Int32) × (Nat → Int32) × (Nat → Int32) × (Nat → Int32) × (Nat → Int32) × (Nat → Int64)) :=
  if (55 + x3) < 0 ∨ 155 ≤ (55 + x3).toNatClampNeg then none else
  if (a_M_now ((55 + x3).toNatClampNeg)) ≤ x4 then (
    k38 x2 (x3 + 1) v_M_acts v_M_waits v_M_place a_M_held a_M_wait a_M_act a_M_clocks a_M_counts a_M_talking a_M_heap
  ) else (
    if (23 + x3) < 0 ∨ 155 ≤ (23 + x3).toNatClampNeg then none else
    if ((240 * (a_M_now ((23 + x3).toNatClampNeg))) + x4) < 0 ∨ 1200 ≤ ((240 * (a_M_now ((23 + x3).toNatClampNeg))) + x4).toNatClampNeg then none else
    k59 x2 x3 (x4 + 1) v_M_acts v_M_waits v_M_place a_M_held a_M_wait a_M_act a_M_clocks a_M_counts (upd a_M_talking (((240 * (a_M_now ((23 + x3).toNatClampNeg))) + x4).toNatClampNeg) 1) a_M_heap
  )
def g_X11_winds_59 (a_M_now : Nat → Int32) (x1 : Int32) (k38 : Int32 → Int32 → Int32 → Int32 → Int32 → (Nat → Int32) → (Nat → Int32) → (Nat → Int32) → (Nat → Int32) → (Nat → Int32) → (Nat → Int32) → (Nat → Int64) → Option (Int32 × Int32 × Int32 × (Nat → Int32) × (Nat → Int32) × (Nat → Int32) × (Nat → Int32) × (Nat → Int32) × (Nat → Int32) × (Nat → Int64))) : Nat → Int32 → Int32 → Int32 → Int32 → Int32 → Int32 → (Nat → Int32) → (Nat → Int32) → (Nat → Int32) → (Nat → Int32) → (Nat → Int32) → (Nat → Int32) → (Nat → Int64) → Option (Int32 × Int32 × Int32 × (Nat → Int32) × (Nat → Int32) × (Nat → Int32) × (Nat → Int32) × (Nat → Int32) × (Nat → Int32) × (Nat → Int64))
  | 0, _, _, _, _, _, _, _, _, _, _, _, _, _ => none
  | n + 1, x2, x3, x4, v_M_acts, v_M_waits, v_M_place, a_M_held, a_M_wait, a_M_act, a_M_clocks, a_M_counts, a_M_talking, a_M_heap => g_X11_winds_59b a_M_now x1 k38 (g_X11_winds_59 a_M_now x1 k38 n) x2 x3 x4 v_M_acts v_M_waits v_M_place a_M_held a_M_wait a_M_act a_M_clocks a_M_counts a_M_talking a_M_heap
def g_X11_winds_38b (a_M_now : Nat → Int32) (x1 : Int32) (k38 : Int32 → Int32 → Int32 → Int32 → Int32 → (Nat → Int32) → (Nat → Int32) → (Nat → Int32) → (Nat → Int32) → (Nat → Int32) → (Nat → Int32) → (Nat → Int64) → Option (Int32 × Int32 × Int32 × (Nat → Int32) × (Nat → Int32) × (Nat → Int32) × (Nat → Int32) × (Nat → Int32) × (Nat → Int32) × (Nat → Int64))) (x2 : Int32) (x3 : Int32) (v_M_acts : Int32) (v_M_waits : Int32) (v_M_place : Int32) (a_M_held : Nat → Int32) (a_M_wait : Nat → Int32) (a_M_act : Nat → Int32) (a_M_clocks : Nat → Int32) (a_M_counts : Nat → Int32) (a_M_talking : Nat → Int32) (a_M_heap : Nat → Int64) : Option (Int32 × Int32 × Int32 × (Nat → Int32) × (Nat → Int32) × (Nat → Int32) × (Nat → Int32) × (Nat → Int32) × (Nat → Int32) × (Nat → Int64)) :=
  if (a_M_now 4) ≤ x3 then (
    g_X11_winds_109 a_M_now x1 zF x2 0 v_M_acts v_M_waits v_M_place a_M_held a_M_wait a_M_act a_M_clocks a_M_counts a_M_talking a_M_heap
  ) else (
    if (39 + x3) < 0 ∨ 155 ≤ (39 + x3).toNatClampNeg then none else
    g_X11_winds_59 a_M_now x1 k38 zF x2 x3 (a_M_now ((39 + x3).toNatClampNeg)) v_M_acts v_M_waits v_M_place a_M_held a_M_wait a_M_act a_M_clocks a_M_counts a_M_talking a_M_heap
  )
def g_X11_winds_38 (a_M_now : Nat → Int32) (x1 : Int32) : Nat → Int32 → Int32 → Int32 → Int32 → Int32 → (Nat → Int32) → (Nat → Int32) → (Nat → Int32) → (Nat → Int32) → (Nat → Int32) → (Nat → Int32) → (Nat → Int64) → Option (Int32 × Int32 × Int32 × (Nat → Int32) × (Nat → Int32) × (Nat → Int32) × (Nat → Int32) × (Nat → Int32) × (Nat → Int32) × (Nat → Int64))
  | 0, _, _, _, _, _, _, _, _, _, _, _, _ => none
  | n + 1, x2, x3, v_M_acts, v_M_waits, v_M_place, a_M_held, a_M_wait, a_M_act, a_M_clocks, a_M_counts, a_M_talking, a_M_heap => g_X11_winds_38b a_M_now x1 (g_X11_winds_38 a_M_now x1 n) x2 x3 v_M_acts v_M_waits v_M_place a_M_held a_M_wait a_M_act a_M_clocks a_M_counts a_M_talking a_M_heap
def g_X11_winds_16b (a_M_now : Nat → Int32) (x1 : Int32) (k16 : Int32 → Int32 → Int32 → Int32 → Int32 → (Nat → Int32) → (Nat → Int32) → (Nat → Int32) → (Nat → Int32) → (Nat → Int32) → (Nat → Int32) → (Nat → Int64) → Option (Int32 × Int32 × Int32 × (Nat → Int32) × (Nat → Int32) × (Nat → Int32) × (Nat → Int32) × (Nat → Int32) × (Nat → Int32) × (Nat → Int64))) (x2 : Int32) (x3 : Int32) (v_M_acts : Int32) (v_M_waits : Int32) (v_M_place : Int32) (a_M_held : Nat → Int32) (a_M_wait : Nat → Int32) (a_M_act : Nat → Int32) (a_M_clocks : Nat → Int32) (a_M_counts : Nat → Int32) (a_M_talking : Nat → Int32) (a_M_heap : Nat → Int64) : Option (Int32 × Int32 × Int32 × (Nat → Int32) × (Nat → Int32) × (Nat → Int32) × (Nat → Int32) × (Nat → Int32) × (Nat → Int32) × (Nat → Int64)) :=
  if 1200 ≤ x3 then (
    g_X11_winds_38 a_M_now x1 zF x2 0 v_M_acts v_M_waits v_M_place a_M_held a_M_wait a_M_act a_M_clocks a_M_counts a_M_talking a_M_heap
  ) else (
    if x3 < 0 ∨ 1200 ≤ x3.toNatClampNeg then none else
    k16 x2 (x3 + 1) v_M_acts v_M_waits v_M_place a_M_held a_M_wait a_M_act a_M_clocks a_M_counts (upd a_M_talking (x3.toNatClampNeg) 0) a_M_heap
  )
def g_X11_winds_16 (a_M_now : Nat → Int32) (x1 : Int32) : Nat → Int32 → Int32 → Int32 → Int32 → Int32 → (Nat → Int32) → (Nat → Int32) → (Nat → Int32) → (Nat → Int32) → (Nat → Int32) → (Nat → Int32) → (Nat → Int64) → Option (Int32 × Int32 × Int32 × (Nat → Int32) × (Nat → Int32) × (Nat → Int32) × (Nat → Int32) × (Nat → Int32) × (Nat → Int32) × (Nat → Int64))
  | 0, _, _, _, _, _, _, _, _, _, _, _, _ => none
  | n + 1, x2, x3, v_M_acts, v_M_waits, v_M_place, a_M_held, a_M_wait, a_M_act, a_M_clocks, a_M_counts, a_M_talking, a_M_heap => g_X11_winds_16b a_M_now x1 (g_X11_winds_16 a_M_now x1 n) x2 x3 v_M_acts v_M_waits v_M_place a_M_held a_M_wait a_M_act a_M_clocks a_M_counts a_M_talking a_M_heap
def g_X11_winds_13 (a_M_now : Nat → Int32) (x1 : Int32) (t0 : Int32) (v_M_acts : Int32) (v_M_waits : Int32) (v_M_place : Int32) (a_M_held : Nat → Int32) (a_M_wait : Nat → Int32) (a_M_act : Nat → Int32) (a_M_clocks : Nat → Int32) (a_M_counts : Nat → Int32) (a_M_talking : Nat → Int32) (a_M_heap : Nat → Int64) : Option (Int32 × Int32 × Int32 × (Nat → Int32) × (Nat → Int32) × (Nat → Int32) × (Nat → Int32) × (Nat → Int32) × (Nat → Int32) × (Nat → Int64)) :=
  g_X11_winds_16 a_M_now x1 zF t0 0 v_M_acts v_M_waits v_M_place a_M_held a_M_wait a_M_act a_M_clocks a_M_counts a_M_talking a_M_heap
def g_X11_winds (a_M_now : Nat → Int32) (x1 : Int32) (v_M_acts : Int32) (v_M_waits : Int32) (v_M_place : Int32) (a_M_held : Nat → Int32) (a_M_wait : Nat → Int32) (a_M_act : Nat → Int32) (a_M_clocks : Nat → Int32) (a_M_counts : Nat → Int32) (a_M_talking : Nat → Int32) (a_M_heap : Nat → Int64) : Option (Int32 × Int32 × Int32 × (Nat → Int32) × (Nat → Int32) × (Nat → Int32) × (Nat → Int32) × (Nat → Int32) × (Nat → Int32) × (Nat → Int64)) :=
  (g_X11_compile a_M_now v_M_acts v_M_waits v_M_place a_M_held a_M_wait a_M_act).bind fun v1 =>
  if v1.1 = (-1) then (
    g_X11_winds_13 a_M_now x1 1 v1.2.1 v1.2.2.1 v1.2.2.2.1 v1.2.2.2.2.1 v1.2.2.2.2.2.1 v1.2.2.2.2.2.2 a_M_clocks a_M_counts a_M_talking a_M_heap
  ) else (
    g_X11_winds_13 a_M_now x1 0 v1.2.1 v1.2.2.1 v1.2.2.2.1 v1.2.2.2.2.1 v1.2.2.2.2.2.1 v1.2.2.2.2.2.2 a_M_clocks a_M_counts a_M_talking a_M_heap
  )
theorem hd_X11_winds : yX11_winds.cls = RX11 ∧ yX11_winds.cls ≠ "java/lang/invoke/MethodHandle" ∧ yX11_winds.cls ≠ "java/lang/invoke/VarHandle" ∧ (parseMethodDescriptor yX11_winds.desc).map (fun d => d.parameters.length) = some 1 := by decide +kernel
set_option maxHeartbeats 4000000 in
set_option maxRecDepth 100000 in
theorem c_X11_winds (l : Launch) (D : va_G) (cI cJ cZ cA : ClassId) (ga : Nat → Nat) (q_M q_M_held q_M_now q_M_wait q_M_act q_M_clocks q_M_counts q_M_talking q_M_heap : Nat) (u_M_images : Value) (u_M_kept : Value) (u_M_text : Value) (u_M_size : Value) (u_M_sign : Value) (u_M_manyAbove : Value) (u_M_manyBelow : Value) (u_M_above : Value) (u_M_below : Value) (u_M_refused : Value) (u_M_at : Value) (u_M_begin : Value) (u_M_kind : Value) (u_M_value : Value) (u_M_read : Value) (u_M_most : Value) (u_M_hasA : Value) (u_M_hasB : Value) (u_M_talks : Value) (u_M_big : Value) (v_M_acts : Int32) (v_M_waits : Int32) (v_M_place : Int32) (a_M_held : Nat → Int32) (a_M_now : Nat → Int32) (a_M_wait : Nat → Int32) (a_M_act : Nat → Int32) (a_M_clocks : Nat → Int32) (a_M_counts : Nat → Int32) (a_M_talking : Nat → Int32) (a_M_heap : Nat → Int64) (x1 : Int32) (o : Int32 × Int32 × Int32 × (Nat → Int32) × (Nat → Int32) × (Nat → Int32) × (Nat → Int32) × (Nat → Int32) × (Nat → Int32) × (Nat → Int64)) (hg : g_X11_winds a_M_now x1 v_M_acts v_M_waits v_M_place a_M_held a_M_wait a_M_act a_M_clocks a_M_counts a_M_talking a_M_heap = some o) : zM l yX11_winds (Cond.code yX11_winds cX11_winds 8 none :: wsL_law) rm_X11_winds D (zTy cI cJ cZ cA) ga [.ref q_M, .int x1] (ws_X11_winds cI cJ cZ cA q_M q_M_held q_M_now q_M_wait q_M_act q_M_clocks q_M_counts q_M_talking q_M_heap u_M_images u_M_kept u_M_text u_M_size u_M_sign u_M_manyAbove u_M_manyBelow u_M_above u_M_below u_M_refused u_M_at u_M_begin u_M_kind u_M_value u_M_read u_M_most u_M_hasA u_M_hasB u_M_talks u_M_big v_M_acts v_M_waits v_M_place a_M_held a_M_now a_M_wait a_M_act a_M_clocks a_M_counts a_M_talking a_M_heap) (ws_X11_winds cI cJ cZ cA q_M q_M_held q_M_now q_M_wait q_M_act q_M_clocks q_M_counts q_M_talking q_M_heap u_M_images u_M_kept u_M_text u_M_size u_M_sign u_M_manyAbove u_M_manyBelow u_M_above u_M_below u_M_refused u_M_at u_M_begin u_M_kind u_M_value u_M_read u_M_most u_M_hasA u_M_hasB u_M_talks u_M_big o.1 o.2.1 o.2.2.1 o.2.2.2.1 a_M_now o.2.2.2.2.1 o.2.2.2.2.2.1 o.2.2.2.2.2.2.1 o.2.2.2.2.2.2.2.1 o.2.2.2.2.2.2.2.2.1 o.2.2.2.2.2.2.2.2.2) none := by
  refine zenterV (own := RX11) (by decide) rfl rfl (Nat.le_of_ble_eq_true rfl) ?_
  intro p e s m args below meth c A ls Q S hA hK hG hl hP hD hS hret0
  have hx := S.1
  have hb := S.2.1
  have ht : ∀ w, w ∈ wsL_law → w.before args s = true := fun w h => S.2.2.2.2 w (List.mem_cons_of_mem _ h)
  have hret : ∀ (v_M_acts : Int32) (v_M_waits : Int32) (v_M_place : Int32) (a_M_held : Nat → Int32) (a_M_wait : Nat → Int32) (a_M_act : Nat → Int32) (a_M_clocks : Nat → Int32) (a_M_counts : Nat → Int32) (a_M_talking : Nat → Int32) (a_M_heap : Nat → Int64), (some (v_M_acts, v_M_waits, v_M_place, a_M_held, a_M_wait, a_M_act, a_M_clocks, a_M_counts, a_M_talking, a_M_heap) : Option (Int32 × Int32 × Int32 × (Nat → Int32) × (Nat → Int32) × (Nat → Int32) × (Nat → Int32) × (Nat → Int32) × (Nat → Int32) × (Nat → Int64))) = some o → ∀ (H : Heap) (locs : List Loc) (pc : Nat) (ls : Array Slot), va_P D vwCl (ws_X11_winds cI cJ cZ cA q_M q_M_held q_M_now q_M_wait q_M_act q_M_clocks q_M_counts q_M_talking q_M_heap u_M_images u_M_kept u_M_text u_M_size u_M_sign u_M_manyAbove u_M_manyBelow u_M_above u_M_below u_M_refused u_M_at u_M_begin u_M_kind u_M_value u_M_read u_M_most u_M_hasA u_M_hasB u_M_talks u_M_big v_M_acts v_M_waits v_M_place a_M_held a_M_now a_M_wait a_M_act a_M_clocks a_M_counts a_M_talking a_M_heap) H → va_S A s.heap H locs → decode cX11_winds pc = .ok (.return_, 1) → W p l e rm_X11_winds s m args below meth c H locs 0 0 Q (F0 m pc ls []) := by
    intro v_M_acts v_M_waits v_M_place a_M_held a_M_wait a_M_act a_M_clocks a_M_counts a_M_talking a_M_heap he; cases he; exact hret0
  have hl : lv_has ls 8 [(0, .ref q_M), (1, .int x1)] := hl
  have B286 : ∀ (k109 : Int32 → Int32 → Int32 → Int32 → Int32 → (Nat → Int32) → (Nat → Int32) → (Nat → Int32) → (Nat → Int32) → (Nat → Int32) → (Nat → Int32) → (Nat → Int64) → Option (Int32 × Int32 × Int32 × (Nat → Int32) × (Nat → Int32) × (Nat → Int32) × (Nat → Int32) × (Nat → Int32) × (Nat → Int32) × (Nat → Int64))) (hk109 : ∀ (x2 : Int32) (x3 : Int32) (v_M_acts : Int32) (v_M_waits : Int32) (v_M_place : Int32) (a_M_held : Nat → Int32) (a_M_wait : Nat → Int32) (a_M_act : Nat → Int32) (a_M_clocks : Nat → Int32) (a_M_counts : Nat → Int32) (a_M_talking : Nat → Int32) (a_M_heap : Nat → Int64) (H : Heap) (locs : List Loc) (ls : Array Slot) (hl : lv_has ls 8 [(0, .ref q_M), (1, .int x1), (2, .int x2), (3, .int x3)]) (hP : va_P D vwCl (ws_X11_winds cI cJ cZ cA q_M q_M_held q_M_now q_M_wait q_M_act q_M_clocks q_M_counts q_M_talking q_M_heap u_M_images u_M_kept u_M_text u_M_size u_M_sign u_M_manyAbove u_M_manyBelow u_M_above u_M_below u_M_refused u_M_at u_M_begin u_M_kind u_M_value u_M_read u_M_most u_M_hasA u_M_hasB u_M_talks u_M_big v_M_acts v_M_waits v_M_place a_M_held a_M_now a_M_wait a_M_act a_M_clocks a_M_counts a_M_talking a_M_heap) H) (hD : va_D A (ws_X11_winds cI cJ cZ cA q_M q_M_held q_M_now q_M_wait q_M_act q_M_clocks q_M_counts q_M_talking q_M_heap u_M_images u_M_kept u_M_text u_M_size u_M_sign u_M_manyAbove u_M_manyBelow u_M_above u_M_below u_M_refused u_M_at u_M_begin u_M_kind u_M_value u_M_read u_M_most u_M_hasA u_M_hasB u_M_talks u_M_big v_M_acts v_M_waits v_M_place a_M_held a_M_now a_M_wait a_M_act a_M_clocks a_M_counts a_M_talking a_M_heap)) (hS : va_S A s.heap H locs), k109 x2 x3 v_M_acts v_M_waits v_M_place a_M_held a_M_wait a_M_act a_M_clocks a_M_counts a_M_talking a_M_heap = some o → W p l e rm_X11_winds s m args below meth c H locs 0 0 Q (F0 m 109 ls [])) (k128 : Int32 → Int32 → Int32 → Int32 → Int32 → Int32 → (Nat → Int32) → (Nat → Int32) → (Nat → Int32) → (Nat → Int32) → (Nat → Int32) → (Nat → Int32) → (Nat → Int64) → Option (Int32 × Int32 × Int32 × (Nat → Int32) × (Nat → Int32) × (Nat → Int32) × (Nat → Int32) × (Nat → Int32) × (Nat → Int32) × (Nat → Int64))) (hk128 : ∀ (x2 : Int32) (x3 : Int32) (x4 : Int32) (v_M_acts : Int32) (v_M_waits : Int32) (v_M_place : Int32) (a_M_held : Nat → Int32) (a_M_wait : Nat → Int32) (a_M_act : Nat → Int32) (a_M_clocks : Nat → Int32) (a_M_counts : Nat → Int32) (a_M_talking : Nat → Int32) (a_M_heap : Nat → Int64) (H : Heap) (locs : List Loc) (ls : Array Slot) (hl : lv_has ls 8 [(0, .ref q_M), (1, .int x1), (2, .int x2), (3, .int x3), (4, .int x4)]) (hP : va_P D vwCl (ws_X11_winds cI cJ cZ cA q_M q_M_held q_M_now q_M_wait q_M_act q_M_clocks q_M_counts q_M_talking q_M_heap u_M_images u_M_kept u_M_text u_M_size u_M_sign u_M_manyAbove u_M_manyBelow u_M_above u_M_below u_M_refused u_M_at u_M_begin u_M_kind u_M_value u_M_read u_M_most u_M_hasA u_M_hasB u_M_talks u_M_big v_M_acts v_M_waits v_M_place a_M_held a_M_now a_M_wait a_M_act a_M_clocks a_M_counts a_M_talking a_M_heap) H) (hD : va_D A (ws_X11_winds cI cJ cZ cA q_M q_M_held q_M_now q_M_wait q_M_act q_M_clocks q_M_counts q_M_talking q_M_heap u_M_images u_M_kept u_M_text u_M_size u_M_sign u_M_manyAbove u_M_manyBelow u_M_above u_M_below u_M_refused u_M_at u_M_begin u_M_kind u_M_value u_M_read u_M_most u_M_hasA u_M_hasB u_M_talks u_M_big v_M_acts v_M_waits v_M_place a_M_held a_M_now a_M_wait a_M_act a_M_clocks a_M_counts a_M_talking a_M_heap)) (hS : va_S A s.heap H locs), k128 x2 x3 x4 v_M_acts v_M_waits v_M_place a_M_held a_M_wait a_M_act a_M_clocks a_M_counts a_M_talking a_M_heap = some o → W p l e rm_X11_winds s m args below meth c H locs 0 0 Q (F0 m 128 ls [])) (x2 : Int32) (x3 : Int32) (x4 : Int32) (t1 : Int32) (t2 : Int32) (t3 : Int32) (v_M_acts : Int32) (v_M_waits : Int32) (v_M_place : Int32) (a_M_held : Nat → Int32) (a_M_wait : Nat → Int32) (a_M_act : Nat → Int32) (a_M_clocks : Nat → Int32) (a_M_counts : Nat → Int32) (a_M_talking : Nat → Int32) (a_M_heap : Nat → Int64) (H : Heap) (locs : List Loc) (ls : Array Slot) (hl : lv_has ls 8 [(0, .ref q_M), (1, .int x1), (2, .int x2), (3, .int x3), (4, .int x4)]) (hP : va_P D vwCl (ws_X11_winds cI cJ cZ cA q_M q_M_held q_M_now q_M_wait q_M_act q_M_clocks q_M_counts q_M_talking q_M_heap u_M_images u_M_kept u_M_text u_M_size u_M_sign u_M_manyAbove u_M_manyBelow u_M_above u_M_below u_M_refused u_M_at u_M_begin u_M_kind u_M_value u_M_read u_M_most u_M_hasA u_M_hasB u_M_talks u_M_big v_M_acts v_M_waits v_M_place a_M_held a_M_now a_M_wait a_M_act a_M_clocks a_M_counts a_M_talking a_M_heap) H) (hD : va_D A (ws_X11_winds cI cJ cZ cA q_M q_M_held q_M_now q_M_wait q_M_act q_M_clocks q_M_counts q_M_talking q_M_heap u_M_images u_M_kept u_M_text u_M_size u_M_sign u_M_manyAbove u_M_manyBelow u_M_above u_M_below u_M_refused u_M_at u_M_begin u_M_kind u_M_value u_M_read u_M_most u_M_hasA u_M_hasB u_M_talks u_M_big v_M_acts v_M_waits v_M_place a_M_held a_M_now a_M_wait a_M_act a_M_clocks a_M_counts a_M_talking a_M_heap)) (hS : va_S A s.heap H locs), g_X11_winds_286 a_M_now x1 k109 k128 x2 x3 x4 t1 t2 t3 v_M_acts v_M_waits v_M_place a_M_held a_M_wait a_M_act a_M_clocks a_M_counts a_M_talking a_M_heap = some o → W p l e rm_X11_winds s m args below meth c H locs 0 0 Q (F0 m 286 ls [.int t3, .int t2, .int t1, .ref q_M_clocks]) := by
    intro k109 hk109 k128 hk128 x2 x3 x4 t1 t2 t3 v_M_acts v_M_waits v_M_place a_M_held a_M_wait a_M_act a_M_clocks a_M_counts a_M_talking a_M_heap H locs ls hl hP hD hS hg
    refine lv_iadd hx hb dX11_winds_286 ?_
    obtain ⟨h5, hg⟩ := zck hg
    refine ziast hx hb hK hP hD hS 5 0 rfl rfl (j := (t1.toNatClampNeg)) h5 rfl dX11_winds_287 (w2 := (ws_X11_winds cI cJ cZ cA q_M q_M_held q_M_now q_M_wait q_M_act q_M_clocks q_M_counts q_M_talking q_M_heap u_M_images u_M_kept u_M_text u_M_size u_M_sign u_M_manyAbove u_M_manyBelow u_M_above u_M_below u_M_refused u_M_at u_M_begin u_M_kind u_M_value u_M_read u_M_most u_M_hasA u_M_hasB u_M_talks u_M_big v_M_acts v_M_waits v_M_place a_M_held a_M_now a_M_wait a_M_act (upd a_M_clocks (t1.toNatClampNeg) (t2 + t3)) a_M_counts a_M_talking a_M_heap)) rfl (fun H locs hP hD hS => ?_)
    refine lv_iinc (k := 4) (v := x4 + 1) (lv' := [(4, .int (x4 + 1)), (0, .ref q_M), (1, .int x1), (2, .int x2), (3, .int x3)]) hx hb dX11_winds_288 hl rfl (zinc (by decide)) (by decide) rfl (fun ls hl => ?_)
    refine lv_goto (tgt := 128) hx hb dX11_winds_291 (by decide) ?_
    exact hk128 x2 x3 (x4 + 1) v_M_acts v_M_waits v_M_place a_M_held a_M_wait a_M_act (upd a_M_clocks (t1.toNatClampNeg) (t2 + t3)) a_M_counts a_M_talking a_M_heap _ _ _ (lv_sub hl [1, 2, 3, 4, 0] rfl) hP hD hS hg
  have B242 : ∀ (k109 : Int32 → Int32 → Int32 → Int32 → Int32 → (Nat → Int32) → (Nat → Int32) → (Nat → Int32) → (Nat → Int32) → (Nat → Int32) → (Nat → Int32) → (Nat → Int64) → Option (Int32 × Int32 × Int32 × (Nat → Int32) × (Nat → Int32) × (Nat → Int32) × (Nat → Int32) × (Nat → Int32) × (Nat → Int32) × (Nat → Int64))) (hk109 : ∀ (x2 : Int32) (x3 : Int32) (v_M_acts : Int32) (v_M_waits : Int32) (v_M_place : Int32) (a_M_held : Nat → Int32) (a_M_wait : Nat → Int32) (a_M_act : Nat → Int32) (a_M_clocks : Nat → Int32) (a_M_counts : Nat → Int32) (a_M_talking : Nat → Int32) (a_M_heap : Nat → Int64) (H : Heap) (locs : List Loc) (ls : Array Slot) (hl : lv_has ls 8 [(0, .ref q_M), (1, .int x1), (2, .int x2), (3, .int x3)]) (hP : va_P D vwCl (ws_X11_winds cI cJ cZ cA q_M q_M_held q_M_now q_M_wait q_M_act q_M_clocks q_M_counts q_M_talking q_M_heap u_M_images u_M_kept u_M_text u_M_size u_M_sign u_M_manyAbove u_M_manyBelow u_M_above u_M_below u_M_refused u_M_at u_M_begin u_M_kind u_M_value u_M_read u_M_most u_M_hasA u_M_hasB u_M_talks u_M_big v_M_acts v_M_waits v_M_place a_M_held a_M_now a_M_wait a_M_act a_M_clocks a_M_counts a_M_talking a_M_heap) H) (hD : va_D A (ws_X11_winds cI cJ cZ cA q_M q_M_held q_M_now q_M_wait q_M_act q_M_clocks q_M_counts q_M_talking q_M_heap u_M_images u_M_kept u_M_text u_M_size u_M_sign u_M_manyAbove u_M_manyBelow u_M_above u_M_below u_M_refused u_M_at u_M_begin u_M_kind u_M_value u_M_read u_M_most u_M_hasA u_M_hasB u_M_talks u_M_big v_M_acts v_M_waits v_M_place a_M_held a_M_now a_M_wait a_M_act a_M_clocks a_M_counts a_M_talking a_M_heap)) (hS : va_S A s.heap H locs), k109 x2 x3 v_M_acts v_M_waits v_M_place a_M_held a_M_wait a_M_act a_M_clocks a_M_counts a_M_talking a_M_heap = some o → W p l e rm_X11_winds s m args below meth c H locs 0 0 Q (F0 m 109 ls [])) (k128 : Int32 → Int32 → Int32 → Int32 → Int32 → Int32 → (Nat → Int32) → (Nat → Int32) → (Nat → Int32) → (Nat → Int32) → (Nat → Int32) → (Nat → Int32) → (Nat → Int64) → Option (Int32 × Int32 × Int32 × (Nat → Int32) × (Nat → Int32) × (Nat → Int32) × (Nat → Int32) × (Nat → Int32) × (Nat → Int32) × (Nat → Int64))) (hk128 : ∀ (x2 : Int32) (x3 : Int32) (x4 : Int32) (v_M_acts : Int32) (v_M_waits : Int32) (v_M_place : Int32) (a_M_held : Nat → Int32) (a_M_wait : Nat → Int32) (a_M_act : Nat → Int32) (a_M_clocks : Nat → Int32) (a_M_counts : Nat → Int32) (a_M_talking : Nat → Int32) (a_M_heap : Nat → Int64) (H : Heap) (locs : List Loc) (ls : Array Slot) (hl : lv_has ls 8 [(0, .ref q_M), (1, .int x1), (2, .int x2), (3, .int x3), (4, .int x4)]) (hP : va_P D vwCl (ws_X11_winds cI cJ cZ cA q_M q_M_held q_M_now q_M_wait q_M_act q_M_clocks q_M_counts q_M_talking q_M_heap u_M_images u_M_kept u_M_text u_M_size u_M_sign u_M_manyAbove u_M_manyBelow u_M_above u_M_below u_M_refused u_M_at u_M_begin u_M_kind u_M_value u_M_read u_M_most u_M_hasA u_M_hasB u_M_talks u_M_big v_M_acts v_M_waits v_M_place a_M_held a_M_now a_M_wait a_M_act a_M_clocks a_M_counts a_M_talking a_M_heap) H) (hD : va_D A (ws_X11_winds cI cJ cZ cA q_M q_M_held q_M_now q_M_wait q_M_act q_M_clocks q_M_counts q_M_talking q_M_heap u_M_images u_M_kept u_M_text u_M_size u_M_sign u_M_manyAbove u_M_manyBelow u_M_above u_M_below u_M_refused u_M_at u_M_begin u_M_kind u_M_value u_M_read u_M_most u_M_hasA u_M_hasB u_M_talks u_M_big v_M_acts v_M_waits v_M_place a_M_held a_M_now a_M_wait a_M_act a_M_clocks a_M_counts a_M_talking a_M_heap)) (hS : va_S A s.heap H locs), k128 x2 x3 x4 v_M_acts v_M_waits v_M_place a_M_held a_M_wait a_M_act a_M_clocks a_M_counts a_M_talking a_M_heap = some o → W p l e rm_X11_winds s m args below meth c H locs 0 0 Q (F0 m 128 ls [])) (k157 : Int32 → Int32 → Int32 → Int32 → Int32 → Int32 → Int32 → Int32 → Int32 → (Nat → Int32) → (Nat → Int32) → (Nat → Int32) → (Nat → Int32) → (Nat → Int32) → (Nat → Int32) → (Nat → Int64) → Option (Int32 × Int32 × Int32 × (Nat → Int32) × (Nat → Int32) × (Nat → Int32) × (Nat → Int32) × (Nat → Int32) × (Nat → Int32) × (Nat → Int64))) (hk157 : ∀ (x2 : Int32) (x3 : Int32) (x4 : Int32) (x5 : Int32) (x6 : Int32) (x7 : Int32) (v_M_acts : Int32) (v_M_waits : Int32) (v_M_place : Int32) (a_M_held : Nat → Int32) (a_M_wait : Nat → Int32) (a_M_act : Nat → Int32) (a_M_clocks : Nat → Int32) (a_M_counts : Nat → Int32) (a_M_talking : Nat → Int32) (a_M_heap : Nat → Int64) (H : Heap) (locs : List Loc) (ls : Array Slot) (hl : lv_has ls 8 [(0, .ref q_M), (1, .int x1), (2, .int x2), (3, .int x3), (4, .int x4), (5, .int x5), (6, .int x6), (7, .int x7)]) (hP : va_P D vwCl (ws_X11_winds cI cJ cZ cA q_M q_M_held q_M_now q_M_wait q_M_act q_M_clocks q_M_counts q_M_talking q_M_heap u_M_images u_M_kept u_M_text u_M_size u_M_sign u_M_manyAbove u_M_manyBelow u_M_above u_M_below u_M_refused u_M_at u_M_begin u_M_kind u_M_value u_M_read u_M_most u_M_hasA u_M_hasB u_M_talks u_M_big v_M_acts v_M_waits v_M_place a_M_held a_M_now a_M_wait a_M_act a_M_clocks a_M_counts a_M_talking a_M_heap) H) (hD : va_D A (ws_X11_winds cI cJ cZ cA q_M q_M_held q_M_now q_M_wait q_M_act q_M_clocks q_M_counts q_M_talking q_M_heap u_M_images u_M_kept u_M_text u_M_size u_M_sign u_M_manyAbove u_M_manyBelow u_M_above u_M_below u_M_refused u_M_at u_M_begin u_M_kind u_M_value u_M_read u_M_most u_M_hasA u_M_hasB u_M_talks u_M_big v_M_acts v_M_waits v_M_place a_M_held a_M_now a_M_wait a_M_act a_M_clocks a_M_counts a_M_talking a_M_heap)) (hS : va_S A s.heap H locs), k157 x2 x3 x4 x5 x6 x7 v_M_acts v_M_waits v_M_place a_M_held a_M_wait a_M_act a_M_clocks a_M_counts a_M_talking a_M_heap = some o → W p l e rm_X11_winds s m args below meth c H locs 0 0 Q (F0 m 157 ls [])) (x2 : Int32) (x3 : Int32) (x4 : Int32) (x5 : Int32) (x6 : Int32) (x7 : Int32) (v_M_acts : Int32) (v_M_waits : Int32) (v_M_place : Int32) (a_M_held : Nat → Int32) (a_M_wait : Nat → Int32) (a_M_act : Nat → Int32) (a_M_clocks : Nat → Int32) (a_M_counts : Nat → Int32) (a_M_talking : Nat → Int32) (a_M_heap : Nat → Int64) (H : Heap) (locs : List Loc) (ls : Array Slot) (hl : lv_has ls 8 [(0, .ref q_M), (1, .int x1), (2, .int x2), (3, .int x3), (4, .int x4), (5, .int x5), (6, .int x6), (7, .int x7)]) (hP : va_P D vwCl (ws_X11_winds cI cJ cZ cA q_M q_M_held q_M_now q_M_wait q_M_act q_M_clocks q_M_counts q_M_talking q_M_heap u_M_images u_M_kept u_M_text u_M_size u_M_sign u_M_manyAbove u_M_manyBelow u_M_above u_M_below u_M_refused u_M_at u_M_begin u_M_kind u_M_value u_M_read u_M_most u_M_hasA u_M_hasB u_M_talks u_M_big v_M_acts v_M_waits v_M_place a_M_held a_M_now a_M_wait a_M_act a_M_clocks a_M_counts a_M_talking a_M_heap) H) (hD : va_D A (ws_X11_winds cI cJ cZ cA q_M q_M_held q_M_now q_M_wait q_M_act q_M_clocks q_M_counts q_M_talking q_M_heap u_M_images u_M_kept u_M_text u_M_size u_M_sign u_M_manyAbove u_M_manyBelow u_M_above u_M_below u_M_refused u_M_at u_M_begin u_M_kind u_M_value u_M_read u_M_most u_M_hasA u_M_hasB u_M_talks u_M_big v_M_acts v_M_waits v_M_place a_M_held a_M_now a_M_wait a_M_act a_M_clocks a_M_counts a_M_talking a_M_heap)) (hS : va_S A s.heap H locs), g_X11_winds_242 a_M_now x1 k109 k128 k157 x2 x3 x4 x5 x6 x7 v_M_acts v_M_waits v_M_place a_M_held a_M_wait a_M_act a_M_clocks a_M_counts a_M_talking a_M_heap = some o → W p l e rm_X11_winds s m args below meth c H locs 0 0 Q (F0 m 242 ls []) := by
    intro k109 hk109 k128 hk128 k157 hk157 x2 x3 x4 x5 x6 x7 v_M_acts v_M_waits v_M_place a_M_held a_M_wait a_M_act a_M_clocks a_M_counts a_M_talking a_M_heap H locs ls hl hP hD hS hg
    refine lv_iinc (k := 7) (v := x7 + 1) (lv' := [(7, .int (x7 + 1)), (0, .ref q_M), (1, .int x1), (2, .int x2), (3, .int x3), (4, .int x4), (5, .int x5), (6, .int x6)]) hx hb dX11_winds_242 hl rfl (zinc (by decide)) (by decide) rfl (fun ls hl => ?_)
    refine lv_goto (tgt := 157) hx hb dX11_winds_245 (by decide) ?_
    exact hk157 x2 x3 x4 x5 x6 (x7 + 1) v_M_acts v_M_waits v_M_place a_M_held a_M_wait a_M_act a_M_clocks a_M_counts a_M_talking a_M_heap _ _ _ (lv_sub hl [1, 2, 3, 4, 5, 6, 7, 0] rfl) hP hD hS hg
  have B222 : ∀ (k109 : Int32 → Int32 → Int32 → Int32 → Int32 → (Nat → Int32) → (Nat → Int32) → (Nat → Int32) → (Nat → Int32) → (Nat → Int32) → (Nat → Int32) → (Nat → Int64) → Option (Int32 × Int32 × Int32 × (Nat → Int32) × (Nat → Int32) × (Nat → Int32) × (Nat → Int32) × (Nat → Int32) × (Nat → Int32) × (Nat → Int64))) (hk109 : ∀ (x2 : Int32) (x3 : Int32) (v_M_acts : Int32) (v_M_waits : Int32) (v_M_place : Int32) (a_M_held : Nat → Int32) (a_M_wait : Nat → Int32) (a_M_act : Nat → Int32) (a_M_clocks : Nat → Int32) (a_M_counts : Nat → Int32) (a_M_talking : Nat → Int32) (a_M_heap : Nat → Int64) (H : Heap) (locs : List Loc) (ls : Array Slot) (hl : lv_has ls 8 [(0, .ref q_M), (1, .int x1), (2, .int x2), (3, .int x3)]) (hP : va_P D vwCl (ws_X11_winds cI cJ cZ cA q_M q_M_held q_M_now q_M_wait q_M_act q_M_clocks q_M_counts q_M_talking q_M_heap u_M_images u_M_kept u_M_text u_M_size u_M_sign u_M_manyAbove u_M_manyBelow u_M_above u_M_below u_M_refused u_M_at u_M_begin u_M_kind u_M_value u_M_read u_M_most u_M_hasA u_M_hasB u_M_talks u_M_big v_M_acts v_M_waits v_M_place a_M_held a_M_now a_M_wait a_M_act a_M_clocks a_M_counts a_M_talking a_M_heap) H) (hD : va_D A (ws_X11_winds cI cJ cZ cA q_M q_M_held q_M_now q_M_wait q_M_act q_M_clocks q_M_counts q_M_talking q_M_heap u_M_images u_M_kept u_M_text u_M_size u_M_sign u_M_manyAbove u_M_manyBelow u_M_above u_M_below u_M_refused u_M_at u_M_begin u_M_kind u_M_value u_M_read u_M_most u_M_hasA u_M_hasB u_M_talks u_M_big v_M_acts v_M_waits v_M_place a_M_held a_M_now a_M_wait a_M_act a_M_clocks a_M_counts a_M_talking a_M_heap)) (hS : va_S A s.heap H locs), k109 x2 x3 v_M_acts v_M_waits v_M_place a_M_held a_M_wait a_M_act a_M_clocks a_M_counts a_M_talking a_M_heap = some o → W p l e rm_X11_winds s m args below meth c H locs 0 0 Q (F0 m 109 ls [])) (k128 : Int32 → Int32 → Int32 → Int32 → Int32 → Int32 → (Nat → Int32) → (Nat → Int32) → (Nat → Int32) → (Nat → Int32) → (Nat → Int32) → (Nat → Int32) → (Nat → Int64) → Option (Int32 × Int32 × Int32 × (Nat → Int32) × (Nat → Int32) × (Nat → Int32) × (Nat → Int32) × (Nat → Int32) × (Nat → Int32) × (Nat → Int64))) (hk128 : ∀ (x2 : Int32) (x3 : Int32) (x4 : Int32) (v_M_acts : Int32) (v_M_waits : Int32) (v_M_place : Int32) (a_M_held : Nat → Int32) (a_M_wait : Nat → Int32) (a_M_act : Nat → Int32) (a_M_clocks : Nat → Int32) (a_M_counts : Nat → Int32) (a_M_talking : Nat → Int32) (a_M_heap : Nat → Int64) (H : Heap) (locs : List Loc) (ls : Array Slot) (hl : lv_has ls 8 [(0, .ref q_M), (1, .int x1), (2, .int x2), (3, .int x3), (4, .int x4)]) (hP : va_P D vwCl (ws_X11_winds cI cJ cZ cA q_M q_M_held q_M_now q_M_wait q_M_act q_M_clocks q_M_counts q_M_talking q_M_heap u_M_images u_M_kept u_M_text u_M_size u_M_sign u_M_manyAbove u_M_manyBelow u_M_above u_M_below u_M_refused u_M_at u_M_begin u_M_kind u_M_value u_M_read u_M_most u_M_hasA u_M_hasB u_M_talks u_M_big v_M_acts v_M_waits v_M_place a_M_held a_M_now a_M_wait a_M_act a_M_clocks a_M_counts a_M_talking a_M_heap) H) (hD : va_D A (ws_X11_winds cI cJ cZ cA q_M q_M_held q_M_now q_M_wait q_M_act q_M_clocks q_M_counts q_M_talking q_M_heap u_M_images u_M_kept u_M_text u_M_size u_M_sign u_M_manyAbove u_M_manyBelow u_M_above u_M_below u_M_refused u_M_at u_M_begin u_M_kind u_M_value u_M_read u_M_most u_M_hasA u_M_hasB u_M_talks u_M_big v_M_acts v_M_waits v_M_place a_M_held a_M_now a_M_wait a_M_act a_M_clocks a_M_counts a_M_talking a_M_heap)) (hS : va_S A s.heap H locs), k128 x2 x3 x4 v_M_acts v_M_waits v_M_place a_M_held a_M_wait a_M_act a_M_clocks a_M_counts a_M_talking a_M_heap = some o → W p l e rm_X11_winds s m args below meth c H locs 0 0 Q (F0 m 128 ls [])) (k157 : Int32 → Int32 → Int32 → Int32 → Int32 → Int32 → Int32 → Int32 → Int32 → (Nat → Int32) → (Nat → Int32) → (Nat → Int32) → (Nat → Int32) → (Nat → Int32) → (Nat → Int32) → (Nat → Int64) → Option (Int32 × Int32 × Int32 × (Nat → Int32) × (Nat → Int32) × (Nat → Int32) × (Nat → Int32) × (Nat → Int32) × (Nat → Int32) × (Nat → Int64))) (hk157 : ∀ (x2 : Int32) (x3 : Int32) (x4 : Int32) (x5 : Int32) (x6 : Int32) (x7 : Int32) (v_M_acts : Int32) (v_M_waits : Int32) (v_M_place : Int32) (a_M_held : Nat → Int32) (a_M_wait : Nat → Int32) (a_M_act : Nat → Int32) (a_M_clocks : Nat → Int32) (a_M_counts : Nat → Int32) (a_M_talking : Nat → Int32) (a_M_heap : Nat → Int64) (H : Heap) (locs : List Loc) (ls : Array Slot) (hl : lv_has ls 8 [(0, .ref q_M), (1, .int x1), (2, .int x2), (3, .int x3), (4, .int x4), (5, .int x5), (6, .int x6), (7, .int x7)]) (hP : va_P D vwCl (ws_X11_winds cI cJ cZ cA q_M q_M_held q_M_now q_M_wait q_M_act q_M_clocks q_M_counts q_M_talking q_M_heap u_M_images u_M_kept u_M_text u_M_size u_M_sign u_M_manyAbove u_M_manyBelow u_M_above u_M_below u_M_refused u_M_at u_M_begin u_M_kind u_M_value u_M_read u_M_most u_M_hasA u_M_hasB u_M_talks u_M_big v_M_acts v_M_waits v_M_place a_M_held a_M_now a_M_wait a_M_act a_M_clocks a_M_counts a_M_talking a_M_heap) H) (hD : va_D A (ws_X11_winds cI cJ cZ cA q_M q_M_held q_M_now q_M_wait q_M_act q_M_clocks q_M_counts q_M_talking q_M_heap u_M_images u_M_kept u_M_text u_M_size u_M_sign u_M_manyAbove u_M_manyBelow u_M_above u_M_below u_M_refused u_M_at u_M_begin u_M_kind u_M_value u_M_read u_M_most u_M_hasA u_M_hasB u_M_talks u_M_big v_M_acts v_M_waits v_M_place a_M_held a_M_now a_M_wait a_M_act a_M_clocks a_M_counts a_M_talking a_M_heap)) (hS : va_S A s.heap H locs), k157 x2 x3 x4 x5 x6 x7 v_M_acts v_M_waits v_M_place a_M_held a_M_wait a_M_act a_M_clocks a_M_counts a_M_talking a_M_heap = some o → W p l e rm_X11_winds s m args below meth c H locs 0 0 Q (F0 m 157 ls [])) (x2 : Int32) (x3 : Int32) (x4 : Int32) (x5 : Int32) (x6 : Int32) (x7 : Int32) (t1 : Int32) (t2 : Int32) (v_M_acts : Int32) (v_M_waits : Int32) (v_M_place : Int32) (a_M_held : Nat → Int32) (a_M_wait : Nat → Int32) (a_M_act : Nat → Int32) (a_M_clocks : Nat → Int32) (a_M_counts : Nat → Int32) (a_M_talking : Nat → Int32) (a_M_heap : Nat → Int64) (H : Heap) (locs : List Loc) (ls : Array Slot) (hl : lv_has ls 8 [(0, .ref q_M), (1, .int x1), (2, .int x2), (3, .int x3), (4, .int x4), (5, .int x5), (6, .int x6), (7, .int x7)]) (hP : va_P D vwCl (ws_X11_winds cI cJ cZ cA q_M q_M_held q_M_now q_M_wait q_M_act q_M_clocks q_M_counts q_M_talking q_M_heap u_M_images u_M_kept u_M_text u_M_size u_M_sign u_M_manyAbove u_M_manyBelow u_M_above u_M_below u_M_refused u_M_at u_M_begin u_M_kind u_M_value u_M_read u_M_most u_M_hasA u_M_hasB u_M_talks u_M_big v_M_acts v_M_waits v_M_place a_M_held a_M_now a_M_wait a_M_act a_M_clocks a_M_counts a_M_talking a_M_heap) H) (hD : va_D A (ws_X11_winds cI cJ cZ cA q_M q_M_held q_M_now q_M_wait q_M_act q_M_clocks q_M_counts q_M_talking q_M_heap u_M_images u_M_kept u_M_text u_M_size u_M_sign u_M_manyAbove u_M_manyBelow u_M_above u_M_below u_M_refused u_M_at u_M_begin u_M_kind u_M_value u_M_read u_M_most u_M_hasA u_M_hasB u_M_talks u_M_big v_M_acts v_M_waits v_M_place a_M_held a_M_now a_M_wait a_M_act a_M_clocks a_M_counts a_M_talking a_M_heap)) (hS : va_S A s.heap H locs), g_X11_winds_222 a_M_now x1 k109 k128 k157 x2 x3 x4 x5 x6 x7 t1 t2 v_M_acts v_M_waits v_M_place a_M_held a_M_wait a_M_act a_M_clocks a_M_counts a_M_talking a_M_heap = some o → W p l e rm_X11_winds s m args below meth c H locs 0 0 Q (F0 m 222 ls [.int t2, .int t1, .ref q_M_counts]) := by
    intro k109 hk109 k128 hk128 k157 hk157 x2 x3 x4 x5 x6 x7 t1 t2 v_M_acts v_M_waits v_M_place a_M_held a_M_wait a_M_act a_M_clocks a_M_counts a_M_talking a_M_heap H locs ls hl hP hD hS hg
    obtain ⟨h7, hg⟩ := zck hg
    refine ziast hx hb hK hP hD hS 6 0 rfl rfl (j := (t1.toNatClampNeg)) h7 rfl dX11_winds_222 (w2 := (ws_X11_winds cI cJ cZ cA q_M q_M_held q_M_now q_M_wait q_M_act q_M_clocks q_M_counts q_M_talking q_M_heap u_M_images u_M_kept u_M_text u_M_size u_M_sign u_M_manyAbove u_M_manyBelow u_M_above u_M_below u_M_refused u_M_at u_M_begin u_M_kind u_M_value u_M_read u_M_most u_M_hasA u_M_hasB u_M_talks u_M_big v_M_acts v_M_waits v_M_place a_M_held a_M_now a_M_wait a_M_act a_M_clocks (upd a_M_counts (t1.toNatClampNeg) t2) a_M_talking a_M_heap)) rfl (fun H locs hP hD hS => ?_)
    refine lv_iload hx hb dX11_winds_223 (lv_at hl 6 rfl) ?_
    refine lv_aload_n hx hb dX11_winds_225 rfl (lv_at hl 0 rfl) ?_
    refine zget (C := RX11) (T := TX11) (N := 31) S hK hP 0 rfl rfl 24 (Nat.le_of_ble_eq_true rfl) zf_11 zw_163 rfl dX11_winds_226 ?_
    refine lv_sipush (v := 240) hx hb dX11_winds_229 (by decide) ?_
    refine lv_iload hx hb dX11_winds_232 (lv_at hl 7 rfl) ?_
    refine lv_imul hx hb dX11_winds_234 ?_
    refine lv_iload hx hb dX11_winds_235 (lv_at hl 4 rfl) ?_
    refine lv_iadd hx hb dX11_winds_237 ?_
    obtain ⟨h8, hg⟩ := zck hg
    refine ziald hx hb hK hP 6 0 rfl rfl (j := (((240 * x7) + x4).toNatClampNeg)) h8 rfl dX11_winds_238 ?_
    refine lv_iadd hx hb dX11_winds_239 ?_
    refine lv_istore (lv' := [(6, .int (x6 + ((upd a_M_counts (t1.toNatClampNeg) t2) (((240 * x7) + x4).toNatClampNeg)))), (0, .ref q_M), (1, .int x1), (2, .int x2), (3, .int x3), (4, .int x4), (5, .int x5), (7, .int x7)]) hx hb dX11_winds_240 hl (by decide) rfl (fun ls hl => ?_)
    exact B242 k109 hk109 k128 hk128 k157 hk157 x2 x3 x4 x5 (x6 + ((upd a_M_counts (t1.toNatClampNeg) t2) (((240 * x7) + x4).toNatClampNeg))) x7 v_M_acts v_M_waits v_M_place a_M_held a_M_wait a_M_act a_M_clocks (upd a_M_counts (t1.toNatClampNeg) t2) a_M_talking a_M_heap _ _ _ (lv_sub hl [1, 2, 3, 4, 5, 6, 0, 7] rfl) hP hD hS hg
  have B157 : ∀ (k109 : Int32 → Int32 → Int32 → Int32 → Int32 → (Nat → Int32) → (Nat → Int32) → (Nat → Int32) → (Nat → Int32) → (Nat → Int32) → (Nat → Int32) → (Nat → Int64) → Option (Int32 × Int32 × Int32 × (Nat → Int32) × (Nat → Int32) × (Nat → Int32) × (Nat → Int32) × (Nat → Int32) × (Nat → Int32) × (Nat → Int64))) (hk109 : ∀ (x2 : Int32) (x3 : Int32) (v_M_acts : Int32) (v_M_waits : Int32) (v_M_place : Int32) (a_M_held : Nat → Int32) (a_M_wait : Nat → Int32) (a_M_act : Nat → Int32) (a_M_clocks : Nat → Int32) (a_M_counts : Nat → Int32) (a_M_talking : Nat → Int32) (a_M_heap : Nat → Int64) (H : Heap) (locs : List Loc) (ls : Array Slot) (hl : lv_has ls 8 [(0, .ref q_M), (1, .int x1), (2, .int x2), (3, .int x3)]) (hP : va_P D vwCl (ws_X11_winds cI cJ cZ cA q_M q_M_held q_M_now q_M_wait q_M_act q_M_clocks q_M_counts q_M_talking q_M_heap u_M_images u_M_kept u_M_text u_M_size u_M_sign u_M_manyAbove u_M_manyBelow u_M_above u_M_below u_M_refused u_M_at u_M_begin u_M_kind u_M_value u_M_read u_M_most u_M_hasA u_M_hasB u_M_talks u_M_big v_M_acts v_M_waits v_M_place a_M_held a_M_now a_M_wait a_M_act a_M_clocks a_M_counts a_M_talking a_M_heap) H) (hD : va_D A (ws_X11_winds cI cJ cZ cA q_M q_M_held q_M_now q_M_wait q_M_act q_M_clocks q_M_counts q_M_talking q_M_heap u_M_images u_M_kept u_M_text u_M_size u_M_sign u_M_manyAbove u_M_manyBelow u_M_above u_M_below u_M_refused u_M_at u_M_begin u_M_kind u_M_value u_M_read u_M_most u_M_hasA u_M_hasB u_M_talks u_M_big v_M_acts v_M_waits v_M_place a_M_held a_M_now a_M_wait a_M_act a_M_clocks a_M_counts a_M_talking a_M_heap)) (hS : va_S A s.heap H locs), k109 x2 x3 v_M_acts v_M_waits v_M_place a_M_held a_M_wait a_M_act a_M_clocks a_M_counts a_M_talking a_M_heap = some o → W p l e rm_X11_winds s m args below meth c H locs 0 0 Q (F0 m 109 ls [])) (k128 : Int32 → Int32 → Int32 → Int32 → Int32 → Int32 → (Nat → Int32) → (Nat → Int32) → (Nat → Int32) → (Nat → Int32) → (Nat → Int32) → (Nat → Int32) → (Nat → Int64) → Option (Int32 × Int32 × Int32 × (Nat → Int32) × (Nat → Int32) × (Nat → Int32) × (Nat → Int32) × (Nat → Int32) × (Nat → Int32) × (Nat → Int64))) (hk128 : ∀ (x2 : Int32) (x3 : Int32) (x4 : Int32) (v_M_acts : Int32) (v_M_waits : Int32) (v_M_place : Int32) (a_M_held : Nat → Int32) (a_M_wait : Nat → Int32) (a_M_act : Nat → Int32) (a_M_clocks : Nat → Int32) (a_M_counts : Nat → Int32) (a_M_talking : Nat → Int32) (a_M_heap : Nat → Int64) (H : Heap) (locs : List Loc) (ls : Array Slot) (hl : lv_has ls 8 [(0, .ref q_M), (1, .int x1), (2, .int x2), (3, .int x3), (4, .int x4)]) (hP : va_P D vwCl (ws_X11_winds cI cJ cZ cA q_M q_M_held q_M_now q_M_wait q_M_act q_M_clocks q_M_counts q_M_talking q_M_heap u_M_images u_M_kept u_M_text u_M_size u_M_sign u_M_manyAbove u_M_manyBelow u_M_above u_M_below u_M_refused u_M_at u_M_begin u_M_kind u_M_value u_M_read u_M_most u_M_hasA u_M_hasB u_M_talks u_M_big v_M_acts v_M_waits v_M_place a_M_held a_M_now a_M_wait a_M_act a_M_clocks a_M_counts a_M_talking a_M_heap) H) (hD : va_D A (ws_X11_winds cI cJ cZ cA q_M q_M_held q_M_now q_M_wait q_M_act q_M_clocks q_M_counts q_M_talking q_M_heap u_M_images u_M_kept u_M_text u_M_size u_M_sign u_M_manyAbove u_M_manyBelow u_M_above u_M_below u_M_refused u_M_at u_M_begin u_M_kind u_M_value u_M_read u_M_most u_M_hasA u_M_hasB u_M_talks u_M_big v_M_acts v_M_waits v_M_place a_M_held a_M_now a_M_wait a_M_act a_M_clocks a_M_counts a_M_talking a_M_heap)) (hS : va_S A s.heap H locs), k128 x2 x3 x4 v_M_acts v_M_waits v_M_place a_M_held a_M_wait a_M_act a_M_clocks a_M_counts a_M_talking a_M_heap = some o → W p l e rm_X11_winds s m args below meth c H locs 0 0 Q (F0 m 128 ls []))  (n : Nat) (x2 : Int32) (x3 : Int32) (x4 : Int32) (x5 : Int32) (x6 : Int32) (x7 : Int32) (v_M_acts : Int32) (v_M_waits : Int32) (v_M_place : Int32) (a_M_held : Nat → Int32) (a_M_wait : Nat → Int32) (a_M_act : Nat → Int32) (a_M_clocks : Nat → Int32) (a_M_counts : Nat → Int32) (a_M_talking : Nat → Int32) (a_M_heap : Nat → Int64) (H : Heap) (locs : List Loc) (ls : Array Slot) (hl : lv_has ls 8 [(0, .ref q_M), (1, .int x1), (2, .int x2), (3, .int x3), (4, .int x4), (5, .int x5), (6, .int x6), (7, .int x7)]) (hP : va_P D vwCl (ws_X11_winds cI cJ cZ cA q_M q_M_held q_M_now q_M_wait q_M_act q_M_clocks q_M_counts q_M_talking q_M_heap u_M_images u_M_kept u_M_text u_M_size u_M_sign u_M_manyAbove u_M_manyBelow u_M_above u_M_below u_M_refused u_M_at u_M_begin u_M_kind u_M_value u_M_read u_M_most u_M_hasA u_M_hasB u_M_talks u_M_big v_M_acts v_M_waits v_M_place a_M_held a_M_now a_M_wait a_M_act a_M_clocks a_M_counts a_M_talking a_M_heap) H) (hD : va_D A (ws_X11_winds cI cJ cZ cA q_M q_M_held q_M_now q_M_wait q_M_act q_M_clocks q_M_counts q_M_talking q_M_heap u_M_images u_M_kept u_M_text u_M_size u_M_sign u_M_manyAbove u_M_manyBelow u_M_above u_M_below u_M_refused u_M_at u_M_begin u_M_kind u_M_value u_M_read u_M_most u_M_hasA u_M_hasB u_M_talks u_M_big v_M_acts v_M_waits v_M_place a_M_held a_M_now a_M_wait a_M_act a_M_clocks a_M_counts a_M_talking a_M_heap)) (hS : va_S A s.heap H locs), g_X11_winds_157 a_M_now x1 k109 k128 n x2 x3 x4 x5 x6 x7 v_M_acts v_M_waits v_M_place a_M_held a_M_wait a_M_act a_M_clocks a_M_counts a_M_talking a_M_heap = some o → W p l e rm_X11_winds s m args below meth c H locs 0 0 Q (F0 m 157 ls []) := by
    intro k109 hk109 k128 hk128 n
    induction n with
    | zero => intro x2 x3 x4 x5 x6 x7 v_M_acts v_M_waits v_M_place a_M_held a_M_wait a_M_act a_M_clocks a_M_counts a_M_talking a_M_heap H locs ls hl hP hD hS hg; exact nomatch (show (none : Option (Int32 × Int32 × Int32 × (Nat → Int32) × (Nat → Int32) × (Nat → Int32) × (Nat → Int32) × (Nat → Int32) × (Nat → Int32) × (Nat → Int64))) = some o from hg)
    | succ n ih =>
      intro x2 x3 x4 x5 x6 x7 v_M_acts v_M_waits v_M_place a_M_held a_M_wait a_M_act a_M_clocks a_M_counts a_M_talking a_M_heap H locs ls hl hP hD hS hg
      have hg : g_X11_winds_157b a_M_now x1 k109 k128 (g_X11_winds_157 a_M_now x1 k109 k128 n) x2 x3 x4 x5 x6 x7 v_M_acts v_M_waits v_M_place a_M_held a_M_wait a_M_act a_M_clocks a_M_counts a_M_talking a_M_heap = some o := hg
      refine lv_iload hx hb dX11_winds_157 (lv_at hl 7 rfl) ?_
      refine lv_aload_n hx hb dX11_winds_159 rfl (lv_at hl 0 rfl) ?_
      refine zget (C := RX11) (T := TX11) (N := 31) S hK hP 0 rfl rfl 0 (Nat.le_of_ble_eq_true rfl) zf_11 zw_149 rfl dX11_winds_160 ?_
      refine lv_iconst (v := 3) hx hb dX11_winds_163 (by decide) ?_
      refine ziald hx hb hK hP 2 0 rfl rfl (j := 3) (zin (by decide)) (by decide) dX11_winds_164 ?_
      refine lv_icmp_ge (tgt := 248) hx hb dX11_winds_165 (by decide) (fun h165 => ?_) (fun h165 => ?_)
      · have hg := zp hg h165
        refine lv_aload_n hx hb dX11_winds_248 rfl (lv_at hl 0 rfl) ?_
        refine zget (C := RX11) (T := TX11) (N := 31) S hK hP 0 rfl rfl 23 (Nat.le_of_ble_eq_true rfl) zf_11 zw_162 rfl dX11_winds_249 ?_
        refine lv_sipush (v := 241) hx hb dX11_winds_252 (by decide) ?_
        refine lv_iload_n hx hb dX11_winds_255 rfl (lv_at hl 3 rfl) ?_
        refine lv_imul hx hb dX11_winds_256 ?_
        refine lv_iload hx hb dX11_winds_257 (lv_at hl 4 rfl) ?_
        refine lv_iadd hx hb dX11_winds_259 ?_
        refine lv_iconst (v := 1) hx hb dX11_winds_260 (by decide) ?_
        refine lv_iadd hx hb dX11_winds_261 ?_
        refine lv_iload hx hb dX11_winds_262 (lv_at hl 5 rfl) ?_
        refine lv_iload hx hb dX11_winds_264 (lv_at hl 6 rfl) ?_
        refine lv_aload_n hx hb dX11_winds_266 rfl (lv_at hl 0 rfl) ?_
        refine zget (C := RX11) (T := TX11) (N := 31) S hK hP 0 rfl rfl 0 (Nat.le_of_ble_eq_true rfl) zf_11 zw_149 rfl dX11_winds_267 ?_
        refine lv_iconst (v := 0) hx hb dX11_winds_270 (by decide) ?_
        refine ziald hx hb hK hP 2 0 rfl rfl (j := 0) (zin (by decide)) (by decide) dX11_winds_271 ?_
        refine lv_icmp_ge (tgt := 280) hx hb dX11_winds_272 (by decide) (fun h272 => ?_) (fun h272 => ?_)
        · have hg := zp hg h272
          refine lv_aload_n hx hb dX11_winds_280 rfl (lv_at hl 0 rfl) ?_
          refine zget (C := RX11) (T := TX11) (N := 31) S hK hP 0 rfl rfl 0 (Nat.le_of_ble_eq_true rfl) zf_11 zw_149 rfl dX11_winds_281 ?_
          refine lv_iconst (v := 0) hx hb dX11_winds_284 (by decide) ?_
          refine ziald hx hb hK hP 2 0 rfl rfl (j := 0) (zin (by decide)) (by decide) dX11_winds_285 ?_
          exact B286 k109 hk109 k128 hk128 x2 x3 x4 (((241 * x3) + x4) + 1) x5 (a_M_now 0) v_M_acts v_M_waits v_M_place a_M_held a_M_wait a_M_act a_M_clocks a_M_counts a_M_talking a_M_heap _ _ _ (lv_sub hl [0, 1, 2, 3, 4] rfl) hP hD hS hg
        · have hg := zn hg h272
          refine lv_iload hx hb dX11_winds_275 (lv_at hl 6 rfl) ?_
          refine lv_goto (tgt := 286) hx hb dX11_winds_277 (by decide) ?_
          exact B286 k109 hk109 k128 hk128 x2 x3 x4 (((241 * x3) + x4) + 1) x5 x6 v_M_acts v_M_waits v_M_place a_M_held a_M_wait a_M_act a_M_clocks a_M_counts a_M_talking a_M_heap _ _ _ (lv_sub hl [0, 1, 2, 3, 4] rfl) hP hD hS hg
      · have hg := zn hg h165
        refine lv_aload_n hx hb dX11_winds_168 rfl (lv_at hl 0 rfl) ?_
        refine zget (C := RX11) (T := TX11) (N := 31) S hK hP 0 rfl rfl 0 (Nat.le_of_ble_eq_true rfl) zf_11 zw_149 rfl dX11_winds_169 ?_
        refine lv_bipush (v := 18) hx hb dX11_winds_172 (by decide) ?_
        refine lv_iload hx hb dX11_winds_174 (lv_at hl 7 rfl) ?_
        refine lv_iadd hx hb dX11_winds_176 ?_
        obtain ⟨h6, hg⟩ := zck hg
        refine ziald hx hb hK hP 2 0 rfl rfl (j := ((18 + x7).toNatClampNeg)) h6 rfl dX11_winds_177 ?_
        refine lv_iload_n hx hb dX11_winds_178 rfl (lv_at hl 3 rfl) ?_
        refine lv_icmp_ne (tgt := 242) hx hb dX11_winds_179 (by decide) (fun h179 => ?_) (fun h179 => ?_)
        · have hg := zn hg h179
          exact B242 k109 hk109 k128 hk128 (g_X11_winds_157 a_M_now x1 k109 k128 n) ih x2 x3 x4 x5 x6 x7 v_M_acts v_M_waits v_M_place a_M_held a_M_wait a_M_act a_M_clocks a_M_counts a_M_talking a_M_heap _ _ _ hl hP hD hS hg
        · have hg := zp hg h179
          refine lv_aload_n hx hb dX11_winds_182 rfl (lv_at hl 0 rfl) ?_
          refine zget (C := RX11) (T := TX11) (N := 31) S hK hP 0 rfl rfl 24 (Nat.le_of_ble_eq_true rfl) zf_11 zw_163 rfl dX11_winds_183 ?_
          refine lv_sipush (v := 240) hx hb dX11_winds_186 (by decide) ?_
          refine lv_iload hx hb dX11_winds_189 (lv_at hl 7 rfl) ?_
          refine lv_imul hx hb dX11_winds_191 ?_
          refine lv_iload hx hb dX11_winds_192 (lv_at hl 4 rfl) ?_
          refine lv_iadd hx hb dX11_winds_194 ?_
          refine lv_iload_n hx hb dX11_winds_195 rfl (lv_at hl 1 rfl) ?_
          refine lv_iload hx hb dX11_winds_196 (lv_at hl 7 rfl) ?_
          refine lv_ishr hx hb dX11_winds_198 ?_
          refine lv_iconst (v := 1) hx hb dX11_winds_199 (by decide) ?_
          refine lv_iand hx hb dX11_winds_200 ?_
          refine lv_iconst (v := 1) hx hb dX11_winds_201 (by decide) ?_
          refine lv_icmp_ne (tgt := 221) hx hb dX11_winds_202 (by decide) (fun h202 => ?_) (fun h202 => ?_)
          · have hg := zn hg h202
            refine lv_iconst (v := 0) hx hb dX11_winds_221 (by decide) ?_
            exact B222 k109 hk109 k128 hk128 (g_X11_winds_157 a_M_now x1 k109 k128 n) ih x2 x3 x4 x5 x6 x7 ((240 * x7) + x4) 0 v_M_acts v_M_waits v_M_place a_M_held a_M_wait a_M_act a_M_clocks a_M_counts a_M_talking a_M_heap _ _ _ hl hP hD hS hg
          · have hg := zp hg h202
            refine lv_aload_n hx hb dX11_winds_205 rfl (lv_at hl 0 rfl) ?_
            refine lv_iload hx hb dX11_winds_206 (lv_at hl 7 rfl) ?_
            refine lv_iload hx hb dX11_winds_208 (lv_at hl 5 rfl) ?_
            refine lv_iload hx hb dX11_winds_210 (lv_at hl 4 rfl) ?_
            refine lv_iload hx hb dX11_winds_212 (lv_at hl 6 rfl) ?_
            refine lv_iload_n hx hb dX11_winds_214 rfl (lv_at hl 2 rfl) ?_
            obtain ⟨v9, hc10, hg⟩ := zbd hg
            refine zcallV (rest := [.int ((240 * x7) + x4), .ref q_M_counts]) S (c_X11_worth l D cI cJ cZ cA ga q_M q_M_talking q_M_now q_M_heap q_M_act u_M_images u_M_kept u_M_text u_M_size u_M_sign u_M_manyAbove u_M_manyBelow u_M_above u_M_below u_M_refused u_M_at u_M_begin u_M_kind u_M_value u_M_read (.int v_M_waits) (.ref q_M_wait) (.ref q_M_held) (.int v_M_place) (.ref q_M_clocks) (.ref q_M_counts) u_M_most u_M_hasA u_M_hasB u_M_talks u_M_big v_M_acts a_M_talking a_M_now a_M_heap a_M_act x7 x5 x4 x6 x2 v9 hc10) (zgV zw_682 zw_683 zw_684 zw_5 zw_685) rfl hd_X11_worth ⟨rfl, rfl⟩ ⟨Nat.le_of_ble_eq_true rfl, Nat.le_of_ble_eq_true rfl⟩ 0 11 rfl rfl rfl hl.1 rfl (Nat.le_of_ble_eq_true rfl) dX11_winds_215 hP hD hS hA hK hG (isC := [0, 7, 2, 8, 4]) rfl (by decide +kernel) rfl ⟨Nat.zero_le _, Nat.zero_le _⟩ (pl := [some 0, none, some 2, none, some 4, none, none, some 1, some 3]) (nw := 9) rfl (by decide +kernel) (w2 := (ws_X11_winds cI cJ cZ cA q_M q_M_held q_M_now q_M_wait q_M_act q_M_clocks q_M_counts q_M_talking q_M_heap u_M_images u_M_kept u_M_text u_M_size u_M_sign u_M_manyAbove u_M_manyBelow u_M_above u_M_below u_M_refused u_M_at u_M_begin u_M_kind u_M_value u_M_read u_M_most u_M_hasA u_M_hasB u_M_talks u_M_big v_M_acts v_M_waits v_M_place a_M_held a_M_now a_M_wait a_M_act a_M_clocks a_M_counts a_M_talking v9.2)) rfl (st1 := [.int v9.1, .int ((240 * x7) + x4), .ref q_M_counts]) rfl (fun H locs hP hD hS => ?_)
            refine lv_goto (tgt := 222) hx hb dX11_winds_218 (by decide) ?_
            exact B222 k109 hk109 k128 hk128 (g_X11_winds_157 a_M_now x1 k109 k128 n) ih x2 x3 x4 x5 x6 x7 ((240 * x7) + x4) v9.1 v_M_acts v_M_waits v_M_place a_M_held a_M_wait a_M_act a_M_clocks a_M_counts a_M_talking v9.2 _ _ _ hl hP hD hS hg
  have B128 : ∀ (k109 : Int32 → Int32 → Int32 → Int32 → Int32 → (Nat → Int32) → (Nat → Int32) → (Nat → Int32) → (Nat → Int32) → (Nat → Int32) → (Nat → Int32) → (Nat → Int64) → Option (Int32 × Int32 × Int32 × (Nat → Int32) × (Nat → Int32) × (Nat → Int32) × (Nat → Int32) × (Nat → Int32) × (Nat → Int32) × (Nat → Int64))) (hk109 : ∀ (x2 : Int32) (x3 : Int32) (v_M_acts : Int32) (v_M_waits : Int32) (v_M_place : Int32) (a_M_held : Nat → Int32) (a_M_wait : Nat → Int32) (a_M_act : Nat → Int32) (a_M_clocks : Nat → Int32) (a_M_counts : Nat → Int32) (a_M_talking : Nat → Int32) (a_M_heap : Nat → Int64) (H : Heap) (locs : List Loc) (ls : Array Slot) (hl : lv_has ls 8 [(0, .ref q_M), (1, .int x1), (2, .int x2), (3, .int x3)]) (hP : va_P D vwCl (ws_X11_winds cI cJ cZ cA q_M q_M_held q_M_now q_M_wait q_M_act q_M_clocks q_M_counts q_M_talking q_M_heap u_M_images u_M_kept u_M_text u_M_size u_M_sign u_M_manyAbove u_M_manyBelow u_M_above u_M_below u_M_refused u_M_at u_M_begin u_M_kind u_M_value u_M_read u_M_most u_M_hasA u_M_hasB u_M_talks u_M_big v_M_acts v_M_waits v_M_place a_M_held a_M_now a_M_wait a_M_act a_M_clocks a_M_counts a_M_talking a_M_heap) H) (hD : va_D A (ws_X11_winds cI cJ cZ cA q_M q_M_held q_M_now q_M_wait q_M_act q_M_clocks q_M_counts q_M_talking q_M_heap u_M_images u_M_kept u_M_text u_M_size u_M_sign u_M_manyAbove u_M_manyBelow u_M_above u_M_below u_M_refused u_M_at u_M_begin u_M_kind u_M_value u_M_read u_M_most u_M_hasA u_M_hasB u_M_talks u_M_big v_M_acts v_M_waits v_M_place a_M_held a_M_now a_M_wait a_M_act a_M_clocks a_M_counts a_M_talking a_M_heap)) (hS : va_S A s.heap H locs), k109 x2 x3 v_M_acts v_M_waits v_M_place a_M_held a_M_wait a_M_act a_M_clocks a_M_counts a_M_talking a_M_heap = some o → W p l e rm_X11_winds s m args below meth c H locs 0 0 Q (F0 m 109 ls []))  (n : Nat) (x2 : Int32) (x3 : Int32) (x4 : Int32) (v_M_acts : Int32) (v_M_waits : Int32) (v_M_place : Int32) (a_M_held : Nat → Int32) (a_M_wait : Nat → Int32) (a_M_act : Nat → Int32) (a_M_clocks : Nat → Int32) (a_M_counts : Nat → Int32) (a_M_talking : Nat → Int32) (a_M_heap : Nat → Int64) (H : Heap) (locs : List Loc) (ls : Array Slot) (hl : lv_has ls 8 [(0, .ref q_M), (1, .int x1), (2, .int x2), (3, .int x3), (4, .int x4)]) (hP : va_P D vwCl (ws_X11_winds cI cJ cZ cA q_M q_M_held q_M_now q_M_wait q_M_act q_M_clocks q_M_counts q_M_talking q_M_heap u_M_images u_M_kept u_M_text u_M_size u_M_sign u_M_manyAbove u_M_manyBelow u_M_above u_M_below u_M_refused u_M_at u_M_begin u_M_kind u_M_value u_M_read u_M_most u_M_hasA u_M_hasB u_M_talks u_M_big v_M_acts v_M_waits v_M_place a_M_held a_M_now a_M_wait a_M_act a_M_clocks a_M_counts a_M_talking a_M_heap) H) (hD : va_D A (ws_X11_winds cI cJ cZ cA q_M q_M_held q_M_now q_M_wait q_M_act q_M_clocks q_M_counts q_M_talking q_M_heap u_M_images u_M_kept u_M_text u_M_size u_M_sign u_M_manyAbove u_M_manyBelow u_M_above u_M_below u_M_refused u_M_at u_M_begin u_M_kind u_M_value u_M_read u_M_most u_M_hasA u_M_hasB u_M_talks u_M_big v_M_acts v_M_waits v_M_place a_M_held a_M_now a_M_wait a_M_act a_M_clocks a_M_counts a_M_talking a_M_heap)) (hS : va_S A s.heap H locs), g_X11_winds_128 a_M_now x1 k109 n x2 x3 x4 v_M_acts v_M_waits v_M_place a_M_held a_M_wait a_M_act a_M_clocks a_M_counts a_M_talking a_M_heap = some o → W p l e rm_X11_winds s m args below meth c H locs 0 0 Q (F0 m 128 ls []) := by
    intro k109 hk109 n
    induction n with
    | zero => intro x2 x3 x4 v_M_acts v_M_waits v_M_place a_M_held a_M_wait a_M_act a_M_clocks a_M_counts a_M_talking a_M_heap H locs ls hl hP hD hS hg; exact nomatch (show (none : Option (Int32 × Int32 × Int32 × (Nat → Int32) × (Nat → Int32) × (Nat → Int32) × (Nat → Int32) × (Nat → Int32) × (Nat → Int32) × (Nat → Int64))) = some o from hg)
    | succ n ih =>
      intro x2 x3 x4 v_M_acts v_M_waits v_M_place a_M_held a_M_wait a_M_act a_M_clocks a_M_counts a_M_talking a_M_heap H locs ls hl hP hD hS hg
      have hg : g_X11_winds_128b a_M_now x1 k109 (g_X11_winds_128 a_M_now x1 k109 n) x2 x3 x4 v_M_acts v_M_waits v_M_place a_M_held a_M_wait a_M_act a_M_clocks a_M_counts a_M_talking a_M_heap = some o := hg
      refine lv_iload hx hb dX11_winds_128 (lv_at hl 4 rfl) ?_
      refine lv_sipush (v := 240) hx hb dX11_winds_130 (by decide) ?_
      refine lv_icmp_ge (tgt := 294) hx hb dX11_winds_133 (by decide) (fun h133 => ?_) (fun h133 => ?_)
      · have hg := zp hg h133
        refine lv_iinc (k := 3) (v := x3 + 1) (lv' := [(3, .int (x3 + 1)), (0, .ref q_M), (1, .int x1), (2, .int x2), (4, .int x4)]) hx hb dX11_winds_294 hl rfl (zinc (by decide)) (by decide) rfl (fun ls hl => ?_)
        refine lv_goto (tgt := 109) hx hb dX11_winds_297 (by decide) ?_
        exact hk109 x2 (x3 + 1) v_M_acts v_M_waits v_M_place a_M_held a_M_wait a_M_act a_M_clocks a_M_counts a_M_talking a_M_heap _ _ _ (lv_sub hl [1, 2, 3, 0] rfl) hP hD hS hg
      · have hg := zn hg h133
        refine lv_aload_n hx hb dX11_winds_136 rfl (lv_at hl 0 rfl) ?_
        refine zget (C := RX11) (T := TX11) (N := 31) S hK hP 0 rfl rfl 23 (Nat.le_of_ble_eq_true rfl) zf_11 zw_162 rfl dX11_winds_137 ?_
        refine lv_sipush (v := 241) hx hb dX11_winds_140 (by decide) ?_
        refine lv_iload_n hx hb dX11_winds_143 rfl (lv_at hl 3 rfl) ?_
        refine lv_imul hx hb dX11_winds_144 ?_
        refine lv_iload hx hb dX11_winds_145 (lv_at hl 4 rfl) ?_
        refine lv_iadd hx hb dX11_winds_147 ?_
        obtain ⟨h4, hg⟩ := zck hg
        refine ziald hx hb hK hP 5 0 rfl rfl (j := (((241 * x3) + x4).toNatClampNeg)) h4 rfl dX11_winds_148 ?_
        refine lv_istore (lv' := [(5, .int (a_M_clocks (((241 * x3) + x4).toNatClampNeg))), (0, .ref q_M), (1, .int x1), (2, .int x2), (3, .int x3), (4, .int x4)]) hx hb dX11_winds_149 hl (by decide) rfl (fun ls hl => ?_)
        refine lv_iconst (v := 0) hx hb dX11_winds_151 (by decide) ?_
        refine lv_istore (lv' := [(6, .int 0), (5, .int (a_M_clocks (((241 * x3) + x4).toNatClampNeg))), (0, .ref q_M), (1, .int x1), (2, .int x2), (3, .int x3), (4, .int x4)]) hx hb dX11_winds_152 hl (by decide) rfl (fun ls hl => ?_)
        refine lv_iconst (v := 0) hx hb dX11_winds_154 (by decide) ?_
        refine lv_istore (lv' := [(7, .int 0), (6, .int 0), (5, .int (a_M_clocks (((241 * x3) + x4).toNatClampNeg))), (0, .ref q_M), (1, .int x1), (2, .int x2), (3, .int x3), (4, .int x4)]) hx hb dX11_winds_155 hl (by decide) rfl (fun ls hl => ?_)
        exact B157 k109 hk109 (g_X11_winds_128 a_M_now x1 k109 n) ih zF x2 x3 x4 (a_M_clocks (((241 * x3) + x4).toNatClampNeg)) 0 0 v_M_acts v_M_waits v_M_place a_M_held a_M_wait a_M_act a_M_clocks a_M_counts a_M_talking a_M_heap _ _ _ (lv_sub hl [3, 4, 5, 6, 7, 2, 1, 0] rfl) hP hD hS hg
  have B109 : ∀  (n : Nat) (x2 : Int32) (x3 : Int32) (v_M_acts : Int32) (v_M_waits : Int32) (v_M_place : Int32) (a_M_held : Nat → Int32) (a_M_wait : Nat → Int32) (a_M_act : Nat → Int32) (a_M_clocks : Nat → Int32) (a_M_counts : Nat → Int32) (a_M_talking : Nat → Int32) (a_M_heap : Nat → Int64) (H : Heap) (locs : List Loc) (ls : Array Slot) (hl : lv_has ls 8 [(0, .ref q_M), (1, .int x1), (2, .int x2), (3, .int x3)]) (hP : va_P D vwCl (ws_X11_winds cI cJ cZ cA q_M q_M_held q_M_now q_M_wait q_M_act q_M_clocks q_M_counts q_M_talking q_M_heap u_M_images u_M_kept u_M_text u_M_size u_M_sign u_M_manyAbove u_M_manyBelow u_M_above u_M_below u_M_refused u_M_at u_M_begin u_M_kind u_M_value u_M_read u_M_most u_M_hasA u_M_hasB u_M_talks u_M_big v_M_acts v_M_waits v_M_place a_M_held a_M_now a_M_wait a_M_act a_M_clocks a_M_counts a_M_talking a_M_heap) H) (hD : va_D A (ws_X11_winds cI cJ cZ cA q_M q_M_held q_M_now q_M_wait q_M_act q_M_clocks q_M_counts q_M_talking q_M_heap u_M_images u_M_kept u_M_text u_M_size u_M_sign u_M_manyAbove u_M_manyBelow u_M_above u_M_below u_M_refused u_M_at u_M_begin u_M_kind u_M_value u_M_read u_M_most u_M_hasA u_M_hasB u_M_talks u_M_big v_M_acts v_M_waits v_M_place a_M_held a_M_now a_M_wait a_M_act a_M_clocks a_M_counts a_M_talking a_M_heap)) (hS : va_S A s.heap H locs), g_X11_winds_109 a_M_now x1 n x2 x3 v_M_acts v_M_waits v_M_place a_M_held a_M_wait a_M_act a_M_clocks a_M_counts a_M_talking a_M_heap = some o → W p l e rm_X11_winds s m args below meth c H locs 0 0 Q (F0 m 109 ls []) := by
    intro  n
    induction n with
    | zero => intro x2 x3 v_M_acts v_M_waits v_M_place a_M_held a_M_wait a_M_act a_M_clocks a_M_counts a_M_talking a_M_heap H locs ls hl hP hD hS hg; exact nomatch (show (none : Option (Int32 × Int32 × Int32 × (Nat → Int32) × (Nat → Int32) × (Nat → Int32) × (Nat → Int32) × (Nat → Int32) × (Nat → Int32) × (Nat → Int64))) = some o from hg)
    | succ n ih =>
      intro x2 x3 v_M_acts v_M_waits v_M_place a_M_held a_M_wait a_M_act a_M_clocks a_M_counts a_M_talking a_M_heap H locs ls hl hP hD hS hg
      have hg : g_X11_winds_109b a_M_now x1 (g_X11_winds_109 a_M_now x1 n) x2 x3 v_M_acts v_M_waits v_M_place a_M_held a_M_wait a_M_act a_M_clocks a_M_counts a_M_talking a_M_heap = some o := hg
      refine lv_iload_n hx hb dX11_winds_109 rfl (lv_at hl 3 rfl) ?_
      refine lv_iconst (v := 2) hx hb dX11_winds_110 (by decide) ?_
      refine lv_icmp_ge (tgt := 300) hx hb dX11_winds_111 (by decide) (fun h111 => ?_) (fun h111 => ?_)
      · have hg := zp hg h111
        exact hret v_M_acts v_M_waits v_M_place a_M_held a_M_wait a_M_act a_M_clocks a_M_counts a_M_talking a_M_heap hg _ _ _ _ hP hS dX11_winds_300
      · have hg := zn hg h111
        refine lv_aload_n hx hb dX11_winds_114 rfl (lv_at hl 0 rfl) ?_
        refine zget (C := RX11) (T := TX11) (N := 31) S hK hP 0 rfl rfl 23 (Nat.le_of_ble_eq_true rfl) zf_11 zw_162 rfl dX11_winds_115 ?_
        refine lv_sipush (v := 241) hx hb dX11_winds_118 (by decide) ?_
        refine lv_iload_n hx hb dX11_winds_121 rfl (lv_at hl 3 rfl) ?_
        refine lv_imul hx hb dX11_winds_122 ?_
        refine lv_iconst (v := 0) hx hb dX11_winds_123 (by decide) ?_
        obtain ⟨h3, hg⟩ := zck hg
        refine ziast hx hb hK hP hD hS 5 0 rfl rfl (j := ((241 * x3).toNatClampNeg)) h3 rfl dX11_winds_124 (w2 := (ws_X11_winds cI cJ cZ cA q_M q_M_held q_M_now q_M_wait q_M_act q_M_clocks q_M_counts q_M_talking q_M_heap u_M_images u_M_kept u_M_text u_M_size u_M_sign u_M_manyAbove u_M_manyBelow u_M_above u_M_below u_M_refused u_M_at u_M_begin u_M_kind u_M_value u_M_read u_M_most u_M_hasA u_M_hasB u_M_talks u_M_big v_M_acts v_M_waits v_M_place a_M_held a_M_now a_M_wait a_M_act (upd a_M_clocks ((241 * x3).toNatClampNeg) 0) a_M_counts a_M_talking a_M_heap)) rfl (fun H locs hP hD hS => ?_)
        refine lv_iconst (v := 0) hx hb dX11_winds_125 (by decide) ?_
        refine lv_istore (lv' := [(4, .int 0), (0, .ref q_M), (1, .int x1), (2, .int x2), (3, .int x3)]) hx hb dX11_winds_126 hl (by decide) rfl (fun ls hl => ?_)
        exact B128 (g_X11_winds_109 a_M_now x1 n) ih zF x2 x3 0 v_M_acts v_M_waits v_M_place a_M_held a_M_wait a_M_act (upd a_M_clocks ((241 * x3).toNatClampNeg) 0) a_M_counts a_M_talking a_M_heap _ _ _ (lv_sub hl [1, 2, 3, 4, 0] rfl) hP hD hS hg
  have B59 : ∀ (k38 : Int32 → Int32 → Int32 → Int32 → Int32 → (Nat → Int32) → (Nat → Int32) → (Nat → Int32) → (Nat → Int32) → (Nat → Int32) → (Nat → Int32) → (Nat → Int64) → Option (Int32 × Int32 × Int32 × (Nat → Int32) × (Nat → Int32) × (Nat → Int32) × (Nat → Int32) × (Nat → Int32) × (Nat → Int32) × (Nat → Int64))) (hk38 : ∀ (x2 : Int32) (x3 : Int32) (v_M_acts : Int32) (v_M_waits : Int32) (v_M_place : Int32) (a_M_held : Nat → Int32) (a_M_wait : Nat → Int32) (a_M_act : Nat → Int32) (a_M_clocks : Nat → Int32) (a_M_counts : Nat → Int32) (a_M_talking : Nat → Int32) (a_M_heap : Nat → Int64) (H : Heap) (locs : List Loc) (ls : Array Slot) (hl : lv_has ls 8 [(0, .ref q_M), (1, .int x1), (2, .int x2), (3, .int x3)]) (hP : va_P D vwCl (ws_X11_winds cI cJ cZ cA q_M q_M_held q_M_now q_M_wait q_M_act q_M_clocks q_M_counts q_M_talking q_M_heap u_M_images u_M_kept u_M_text u_M_size u_M_sign u_M_manyAbove u_M_manyBelow u_M_above u_M_below u_M_refused u_M_at u_M_begin u_M_kind u_M_value u_M_read u_M_most u_M_hasA u_M_hasB u_M_talks u_M_big v_M_acts v_M_waits v_M_place a_M_held a_M_now a_M_wait a_M_act a_M_clocks a_M_counts a_M_talking a_M_heap) H) (hD : va_D A (ws_X11_winds cI cJ cZ cA q_M q_M_held q_M_now q_M_wait q_M_act q_M_clocks q_M_counts q_M_talking q_M_heap u_M_images u_M_kept u_M_text u_M_size u_M_sign u_M_manyAbove u_M_manyBelow u_M_above u_M_below u_M_refused u_M_at u_M_begin u_M_kind u_M_value u_M_read u_M_most u_M_hasA u_M_hasB u_M_talks u_M_big v_M_acts v_M_waits v_M_place a_M_held a_M_now a_M_wait a_M_act a_M_clocks a_M_counts a_M_talking a_M_heap)) (hS : va_S A s.heap H locs), k38 x2 x3 v_M_acts v_M_waits v_M_place a_M_held a_M_wait a_M_act a_M_clocks a_M_counts a_M_talking a_M_heap = some o → W p l e rm_X11_winds s m args below meth c H locs 0 0 Q (F0 m 38 ls []))  (n : Nat) (x2 : Int32) (x3 : Int32) (x4 : Int32) (v_M_acts : Int32) (v_M_waits : Int32) (v_M_place : Int32) (a_M_held : Nat → Int32) (a_M_wait : Nat → Int32) (a_M_act : Nat → Int32) (a_M_clocks : Nat → Int32) (a_M_counts : Nat → Int32) (a_M_talking : Nat → Int32) (a_M_heap : Nat → Int64) (H : Heap) (locs : List Loc) (ls : Array Slot) (hl : lv_has ls 8 [(0, .ref q_M), (1, .int x1), (2, .int x2), (3, .int x3), (4, .int x4)]) (hP : va_P D vwCl (ws_X11_winds cI cJ cZ cA q_M q_M_held q_M_now q_M_wait q_M_act q_M_clocks q_M_counts q_M_talking q_M_heap u_M_images u_M_kept u_M_text u_M_size u_M_sign u_M_manyAbove u_M_manyBelow u_M_above u_M_below u_M_refused u_M_at u_M_begin u_M_kind u_M_value u_M_read u_M_most u_M_hasA u_M_hasB u_M_talks u_M_big v_M_acts v_M_waits v_M_place a_M_held a_M_now a_M_wait a_M_act a_M_clocks a_M_counts a_M_talking a_M_heap) H) (hD : va_D A (ws_X11_winds cI cJ cZ cA q_M q_M_held q_M_now q_M_wait q_M_act q_M_clocks q_M_counts q_M_talking q_M_heap u_M_images u_M_kept u_M_text u_M_size u_M_sign u_M_manyAbove u_M_manyBelow u_M_above u_M_below u_M_refused u_M_at u_M_begin u_M_kind u_M_value u_M_read u_M_most u_M_hasA u_M_hasB u_M_talks u_M_big v_M_acts v_M_waits v_M_place a_M_held a_M_now a_M_wait a_M_act a_M_clocks a_M_counts a_M_talking a_M_heap)) (hS : va_S A s.heap H locs), g_X11_winds_59 a_M_now x1 k38 n x2 x3 x4 v_M_acts v_M_waits v_M_place a_M_held a_M_wait a_M_act a_M_clocks a_M_counts a_M_talking a_M_heap = some o → W p l e rm_X11_winds s m args below meth c H locs 0 0 Q (F0 m 59 ls []) := by
    intro k38 hk38 n
    induction n with
    | zero => intro x2 x3 x4 v_M_acts v_M_waits v_M_place a_M_held a_M_wait a_M_act a_M_clocks a_M_counts a_M_talking a_M_heap H locs ls hl hP hD hS hg; exact nomatch (show (none : Option (Int32 × Int32 × Int32 × (Nat → Int32) × (Nat → Int32) × (Nat → Int32) × (Nat → Int32) × (Nat → Int32) × (Nat → Int32) × (Nat → Int64))) = some o from hg)
    | succ n ih =>
      intro x2 x3 x4 v_M_acts v_M_waits v_M_place a_M_held a_M_wait a_M_act a_M_clocks a_M_counts a_M_talking a_M_heap H locs ls hl hP hD hS hg
      have hg : g_X11_winds_59b a_M_now x1 k38 (g_X11_winds_59 a_M_now x1 k38 n) x2 x3 x4 v_M_acts v_M_waits v_M_place a_M_held a_M_wait a_M_act a_M_clocks a_M_counts a_M_talking a_M_heap = some o := hg
      refine lv_iload hx hb dX11_winds_59 (lv_at hl 4 rfl) ?_
      refine lv_aload_n hx hb dX11_winds_61 rfl (lv_at hl 0 rfl) ?_
      refine zget (C := RX11) (T := TX11) (N := 31) S hK hP 0 rfl rfl 0 (Nat.le_of_ble_eq_true rfl) zf_11 zw_149 rfl dX11_winds_62 ?_
      refine lv_bipush (v := 55) hx hb dX11_winds_65 (by decide) ?_
      refine lv_iload_n hx hb dX11_winds_67 rfl (lv_at hl 3 rfl) ?_
      refine lv_iadd hx hb dX11_winds_68 ?_
      obtain ⟨h12, hg⟩ := zck hg
      refine ziald hx hb hK hP 2 0 rfl rfl (j := ((55 + x3).toNatClampNeg)) h12 rfl dX11_winds_69 ?_
      refine lv_icmp_ge (tgt := 101) hx hb dX11_winds_70 (by decide) (fun h70 => ?_) (fun h70 => ?_)
      · have hg := zp hg h70
        refine lv_iinc (k := 3) (v := x3 + 1) (lv' := [(3, .int (x3 + 1)), (0, .ref q_M), (1, .int x1), (2, .int x2), (4, .int x4)]) hx hb dX11_winds_101 hl rfl (zinc (by decide)) (by decide) rfl (fun ls hl => ?_)
        refine lv_goto (tgt := 38) hx hb dX11_winds_104 (by decide) ?_
        exact hk38 x2 (x3 + 1) v_M_acts v_M_waits v_M_place a_M_held a_M_wait a_M_act a_M_clocks a_M_counts a_M_talking a_M_heap _ _ _ (lv_sub hl [1, 2, 3, 0] rfl) hP hD hS hg
      · have hg := zn hg h70
        refine lv_aload_n hx hb dX11_winds_73 rfl (lv_at hl 0 rfl) ?_
        refine zget (C := RX11) (T := TX11) (N := 31) S hK hP 0 rfl rfl 25 (Nat.le_of_ble_eq_true rfl) zf_11 zw_164 rfl dX11_winds_74 ?_
        refine lv_sipush (v := 240) hx hb dX11_winds_77 (by decide) ?_
        refine lv_aload_n hx hb dX11_winds_80 rfl (lv_at hl 0 rfl) ?_
        refine zget (C := RX11) (T := TX11) (N := 31) S hK hP 0 rfl rfl 0 (Nat.le_of_ble_eq_true rfl) zf_11 zw_149 rfl dX11_winds_81 ?_
        refine lv_bipush (v := 23) hx hb dX11_winds_84 (by decide) ?_
        refine lv_iload_n hx hb dX11_winds_86 rfl (lv_at hl 3 rfl) ?_
        refine lv_iadd hx hb dX11_winds_87 ?_
        obtain ⟨h13, hg⟩ := zck hg
        refine ziald hx hb hK hP 2 0 rfl rfl (j := ((23 + x3).toNatClampNeg)) h13 rfl dX11_winds_88 ?_
        refine lv_imul hx hb dX11_winds_89 ?_
        refine lv_iload hx hb dX11_winds_90 (lv_at hl 4 rfl) ?_
        refine lv_iadd hx hb dX11_winds_92 ?_
        refine lv_iconst (v := 1) hx hb dX11_winds_93 (by decide) ?_
        obtain ⟨h14, hg⟩ := zck hg
        refine zzast hx hb hK hP hD hS 7 2 rfl rfl (j := (((240 * (a_M_now ((23 + x3).toNatClampNeg))) + x4).toNatClampNeg)) (y := 1) rfl h14 rfl dX11_winds_94 (w2 := (ws_X11_winds cI cJ cZ cA q_M q_M_held q_M_now q_M_wait q_M_act q_M_clocks q_M_counts q_M_talking q_M_heap u_M_images u_M_kept u_M_text u_M_size u_M_sign u_M_manyAbove u_M_manyBelow u_M_above u_M_below u_M_refused u_M_at u_M_begin u_M_kind u_M_value u_M_read u_M_most u_M_hasA u_M_hasB u_M_talks u_M_big v_M_acts v_M_waits v_M_place a_M_held a_M_now a_M_wait a_M_act a_M_clocks a_M_counts (upd a_M_talking (((240 * (a_M_now ((23 + x3).toNatClampNeg))) + x4).toNatClampNeg) 1) a_M_heap)) rfl (fun H locs hP hD hS => ?_)
        refine lv_iinc (k := 4) (v := x4 + 1) (lv' := [(4, .int (x4 + 1)), (0, .ref q_M), (1, .int x1), (2, .int x2), (3, .int x3)]) hx hb dX11_winds_95 hl rfl (zinc (by decide)) (by decide) rfl (fun ls hl => ?_)
        refine lv_goto (tgt := 59) hx hb dX11_winds_98 (by decide) ?_
        exact ih x2 x3 (x4 + 1) v_M_acts v_M_waits v_M_place a_M_held a_M_wait a_M_act a_M_clocks a_M_counts (upd a_M_talking (((240 * (a_M_now ((23 + x3).toNatClampNeg))) + x4).toNatClampNeg) 1) a_M_heap _ _ _ (lv_sub hl [1, 2, 3, 4, 0] rfl) hP hD hS hg
  have B38 : ∀  (n : Nat) (x2 : Int32) (x3 : Int32) (v_M_acts : Int32) (v_M_waits : Int32) (v_M_place : Int32) (a_M_held : Nat → Int32) (a_M_wait : Nat → Int32) (a_M_act : Nat → Int32) (a_M_clocks : Nat → Int32) (a_M_counts : Nat → Int32) (a_M_talking : Nat → Int32) (a_M_heap : Nat → Int64) (H : Heap) (locs : List Loc) (ls : Array Slot) (hl : lv_has ls 8 [(0, .ref q_M), (1, .int x1), (2, .int x2), (3, .int x3)]) (hP : va_P D vwCl (ws_X11_winds cI cJ cZ cA q_M q_M_held q_M_now q_M_wait q_M_act q_M_clocks q_M_counts q_M_talking q_M_heap u_M_images u_M_kept u_M_text u_M_size u_M_sign u_M_manyAbove u_M_manyBelow u_M_above u_M_below u_M_refused u_M_at u_M_begin u_M_kind u_M_value u_M_read u_M_most u_M_hasA u_M_hasB u_M_talks u_M_big v_M_acts v_M_waits v_M_place a_M_held a_M_now a_M_wait a_M_act a_M_clocks a_M_counts a_M_talking a_M_heap) H) (hD : va_D A (ws_X11_winds cI cJ cZ cA q_M q_M_held q_M_now q_M_wait q_M_act q_M_clocks q_M_counts q_M_talking q_M_heap u_M_images u_M_kept u_M_text u_M_size u_M_sign u_M_manyAbove u_M_manyBelow u_M_above u_M_below u_M_refused u_M_at u_M_begin u_M_kind u_M_value u_M_read u_M_most u_M_hasA u_M_hasB u_M_talks u_M_big v_M_acts v_M_waits v_M_place a_M_held a_M_now a_M_wait a_M_act a_M_clocks a_M_counts a_M_talking a_M_heap)) (hS : va_S A s.heap H locs), g_X11_winds_38 a_M_now x1 n x2 x3 v_M_acts v_M_waits v_M_place a_M_held a_M_wait a_M_act a_M_clocks a_M_counts a_M_talking a_M_heap = some o → W p l e rm_X11_winds s m args below meth c H locs 0 0 Q (F0 m 38 ls []) := by
    intro  n
    induction n with
    | zero => intro x2 x3 v_M_acts v_M_waits v_M_place a_M_held a_M_wait a_M_act a_M_clocks a_M_counts a_M_talking a_M_heap H locs ls hl hP hD hS hg; exact nomatch (show (none : Option (Int32 × Int32 × Int32 × (Nat → Int32) × (Nat → Int32) × (Nat → Int32) × (Nat → Int32) × (Nat → Int32) × (Nat → Int32) × (Nat → Int64))) = some o from hg)
    | succ n ih =>
      intro x2 x3 v_M_acts v_M_waits v_M_place a_M_held a_M_wait a_M_act a_M_clocks a_M_counts a_M_talking a_M_heap H locs ls hl hP hD hS hg
      have hg : g_X11_winds_38b a_M_now x1 (g_X11_winds_38 a_M_now x1 n) x2 x3 v_M_acts v_M_waits v_M_place a_M_held a_M_wait a_M_act a_M_clocks a_M_counts a_M_talking a_M_heap = some o := hg
      refine lv_iload_n hx hb dX11_winds_38 rfl (lv_at hl 3 rfl) ?_
      refine lv_aload_n hx hb dX11_winds_39 rfl (lv_at hl 0 rfl) ?_
      refine zget (C := RX11) (T := TX11) (N := 31) S hK hP 0 rfl rfl 0 (Nat.le_of_ble_eq_true rfl) zf_11 zw_149 rfl dX11_winds_40 ?_
      refine lv_iconst (v := 4) hx hb dX11_winds_43 (by decide) ?_
      refine ziald hx hb hK hP 2 0 rfl rfl (j := 4) (zin (by decide)) (by decide) dX11_winds_44 ?_
      refine lv_icmp_ge (tgt := 107) hx hb dX11_winds_45 (by decide) (fun h45 => ?_) (fun h45 => ?_)
      · have hg := zp hg h45
        refine lv_iconst (v := 0) hx hb dX11_winds_107 (by decide) ?_
        refine lv_istore_n (lv' := [(3, .int 0), (0, .ref q_M), (1, .int x1), (2, .int x2)]) hx hb dX11_winds_108 rfl hl (by decide) rfl (fun ls hl => ?_)
        exact B109 zF x2 0 v_M_acts v_M_waits v_M_place a_M_held a_M_wait a_M_act a_M_clocks a_M_counts a_M_talking a_M_heap _ _ _ (lv_sub hl [1, 2, 3, 0] rfl) hP hD hS hg
      · have hg := zn hg h45
        refine lv_aload_n hx hb dX11_winds_48 rfl (lv_at hl 0 rfl) ?_
        refine zget (C := RX11) (T := TX11) (N := 31) S hK hP 0 rfl rfl 0 (Nat.le_of_ble_eq_true rfl) zf_11 zw_149 rfl dX11_winds_49 ?_
        refine lv_bipush (v := 39) hx hb dX11_winds_52 (by decide) ?_
        refine lv_iload_n hx hb dX11_winds_54 rfl (lv_at hl 3 rfl) ?_
        refine lv_iadd hx hb dX11_winds_55 ?_
        obtain ⟨h11, hg⟩ := zck hg
        refine ziald hx hb hK hP 2 0 rfl rfl (j := ((39 + x3).toNatClampNeg)) h11 rfl dX11_winds_56 ?_
        refine lv_istore (lv' := [(4, .int (a_M_now ((39 + x3).toNatClampNeg))), (0, .ref q_M), (1, .int x1), (2, .int x2), (3, .int x3)]) hx hb dX11_winds_57 hl (by decide) rfl (fun ls hl => ?_)
        exact B59 (g_X11_winds_38 a_M_now x1 n) ih zF x2 x3 (a_M_now ((39 + x3).toNatClampNeg)) v_M_acts v_M_waits v_M_place a_M_held a_M_wait a_M_act a_M_clocks a_M_counts a_M_talking a_M_heap _ _ _ (lv_sub hl [1, 2, 3, 4, 0] rfl) hP hD hS hg
  have B16 : ∀  (n : Nat) (x2 : Int32) (x3 : Int32) (v_M_acts : Int32) (v_M_waits : Int32) (v_M_place : Int32) (a_M_held : Nat → Int32) (a_M_wait : Nat → Int32) (a_M_act : Nat → Int32) (a_M_clocks : Nat → Int32) (a_M_counts : Nat → Int32) (a_M_talking : Nat → Int32) (a_M_heap : Nat → Int64) (H : Heap) (locs : List Loc) (ls : Array Slot) (hl : lv_has ls 8 [(0, .ref q_M), (1, .int x1), (2, .int x2), (3, .int x3)]) (hP : va_P D vwCl (ws_X11_winds cI cJ cZ cA q_M q_M_held q_M_now q_M_wait q_M_act q_M_clocks q_M_counts q_M_talking q_M_heap u_M_images u_M_kept u_M_text u_M_size u_M_sign u_M_manyAbove u_M_manyBelow u_M_above u_M_below u_M_refused u_M_at u_M_begin u_M_kind u_M_value u_M_read u_M_most u_M_hasA u_M_hasB u_M_talks u_M_big v_M_acts v_M_waits v_M_place a_M_held a_M_now a_M_wait a_M_act a_M_clocks a_M_counts a_M_talking a_M_heap) H) (hD : va_D A (ws_X11_winds cI cJ cZ cA q_M q_M_held q_M_now q_M_wait q_M_act q_M_clocks q_M_counts q_M_talking q_M_heap u_M_images u_M_kept u_M_text u_M_size u_M_sign u_M_manyAbove u_M_manyBelow u_M_above u_M_below u_M_refused u_M_at u_M_begin u_M_kind u_M_value u_M_read u_M_most u_M_hasA u_M_hasB u_M_talks u_M_big v_M_acts v_M_waits v_M_place a_M_held a_M_now a_M_wait a_M_act a_M_clocks a_M_counts a_M_talking a_M_heap)) (hS : va_S A s.heap H locs), g_X11_winds_16 a_M_now x1 n x2 x3 v_M_acts v_M_waits v_M_place a_M_held a_M_wait a_M_act a_M_clocks a_M_counts a_M_talking a_M_heap = some o → W p l e rm_X11_winds s m args below meth c H locs 0 0 Q (F0 m 16 ls []) := by
    intro  n
    induction n with
    | zero => intro x2 x3 v_M_acts v_M_waits v_M_place a_M_held a_M_wait a_M_act a_M_clocks a_M_counts a_M_talking a_M_heap H locs ls hl hP hD hS hg; exact nomatch (show (none : Option (Int32 × Int32 × Int32 × (Nat → Int32) × (Nat → Int32) × (Nat → Int32) × (Nat → Int32) × (Nat → Int32) × (Nat → Int32) × (Nat → Int64))) = some o from hg)
    | succ n ih =>
      intro x2 x3 v_M_acts v_M_waits v_M_place a_M_held a_M_wait a_M_act a_M_clocks a_M_counts a_M_talking a_M_heap H locs ls hl hP hD hS hg
      have hg : g_X11_winds_16b a_M_now x1 (g_X11_winds_16 a_M_now x1 n) x2 x3 v_M_acts v_M_waits v_M_place a_M_held a_M_wait a_M_act a_M_clocks a_M_counts a_M_talking a_M_heap = some o := hg
      refine lv_iload_n hx hb dX11_winds_16 rfl (lv_at hl 3 rfl) ?_
      refine lv_sipush (v := 1200) hx hb dX11_winds_17 (by decide) ?_
      refine lv_icmp_ge (tgt := 36) hx hb dX11_winds_20 (by decide) (fun h20 => ?_) (fun h20 => ?_)
      · have hg := zp hg h20
        refine lv_iconst (v := 0) hx hb dX11_winds_36 (by decide) ?_
        refine lv_istore_n (lv' := [(3, .int 0), (0, .ref q_M), (1, .int x1), (2, .int x2)]) hx hb dX11_winds_37 rfl hl (by decide) rfl (fun ls hl => ?_)
        exact B38 zF x2 0 v_M_acts v_M_waits v_M_place a_M_held a_M_wait a_M_act a_M_clocks a_M_counts a_M_talking a_M_heap _ _ _ (lv_sub hl [1, 2, 3, 0] rfl) hP hD hS hg
      · have hg := zn hg h20
        refine lv_aload_n hx hb dX11_winds_23 rfl (lv_at hl 0 rfl) ?_
        refine zget (C := RX11) (T := TX11) (N := 31) S hK hP 0 rfl rfl 25 (Nat.le_of_ble_eq_true rfl) zf_11 zw_164 rfl dX11_winds_24 ?_
        refine lv_iload_n hx hb dX11_winds_27 rfl (lv_at hl 3 rfl) ?_
        refine lv_iconst (v := 0) hx hb dX11_winds_28 (by decide) ?_
        obtain ⟨h15, hg⟩ := zck hg
        refine zzast hx hb hK hP hD hS 7 2 rfl rfl (j := (x3.toNatClampNeg)) (y := 0) rfl h15 rfl dX11_winds_29 (w2 := (ws_X11_winds cI cJ cZ cA q_M q_M_held q_M_now q_M_wait q_M_act q_M_clocks q_M_counts q_M_talking q_M_heap u_M_images u_M_kept u_M_text u_M_size u_M_sign u_M_manyAbove u_M_manyBelow u_M_above u_M_below u_M_refused u_M_at u_M_begin u_M_kind u_M_value u_M_read u_M_most u_M_hasA u_M_hasB u_M_talks u_M_big v_M_acts v_M_waits v_M_place a_M_held a_M_now a_M_wait a_M_act a_M_clocks a_M_counts (upd a_M_talking (x3.toNatClampNeg) 0) a_M_heap)) rfl (fun H locs hP hD hS => ?_)
        refine lv_iinc (k := 3) (v := x3 + 1) (lv' := [(3, .int (x3 + 1)), (0, .ref q_M), (1, .int x1), (2, .int x2)]) hx hb dX11_winds_30 hl rfl (zinc (by decide)) (by decide) rfl (fun ls hl => ?_)
        refine lv_goto (tgt := 16) hx hb dX11_winds_33 (by decide) ?_
        exact ih x2 (x3 + 1) v_M_acts v_M_waits v_M_place a_M_held a_M_wait a_M_act a_M_clocks a_M_counts (upd a_M_talking (x3.toNatClampNeg) 0) a_M_heap _ _ _ (lv_sub hl [1, 2, 3, 0] rfl) hP hD hS hg
  have B13 : ∀ (t0 : Int32) (v_M_acts : Int32) (v_M_waits : Int32) (v_M_place : Int32) (a_M_held : Nat → Int32) (a_M_wait : Nat → Int32) (a_M_act : Nat → Int32) (a_M_clocks : Nat → Int32) (a_M_counts : Nat → Int32) (a_M_talking : Nat → Int32) (a_M_heap : Nat → Int64) (H : Heap) (locs : List Loc) (ls : Array Slot) (hl : lv_has ls 8 [(0, .ref q_M), (1, .int x1)]) (hP : va_P D vwCl (ws_X11_winds cI cJ cZ cA q_M q_M_held q_M_now q_M_wait q_M_act q_M_clocks q_M_counts q_M_talking q_M_heap u_M_images u_M_kept u_M_text u_M_size u_M_sign u_M_manyAbove u_M_manyBelow u_M_above u_M_below u_M_refused u_M_at u_M_begin u_M_kind u_M_value u_M_read u_M_most u_M_hasA u_M_hasB u_M_talks u_M_big v_M_acts v_M_waits v_M_place a_M_held a_M_now a_M_wait a_M_act a_M_clocks a_M_counts a_M_talking a_M_heap) H) (hD : va_D A (ws_X11_winds cI cJ cZ cA q_M q_M_held q_M_now q_M_wait q_M_act q_M_clocks q_M_counts q_M_talking q_M_heap u_M_images u_M_kept u_M_text u_M_size u_M_sign u_M_manyAbove u_M_manyBelow u_M_above u_M_below u_M_refused u_M_at u_M_begin u_M_kind u_M_value u_M_read u_M_most u_M_hasA u_M_hasB u_M_talks u_M_big v_M_acts v_M_waits v_M_place a_M_held a_M_now a_M_wait a_M_act a_M_clocks a_M_counts a_M_talking a_M_heap)) (hS : va_S A s.heap H locs), g_X11_winds_13 a_M_now x1 t0 v_M_acts v_M_waits v_M_place a_M_held a_M_wait a_M_act a_M_clocks a_M_counts a_M_talking a_M_heap = some o → W p l e rm_X11_winds s m args below meth c H locs 0 0 Q (F0 m 13 ls [.int t0]) := by
    intro  t0 v_M_acts v_M_waits v_M_place a_M_held a_M_wait a_M_act a_M_clocks a_M_counts a_M_talking a_M_heap H locs ls hl hP hD hS hg
    refine lv_istore_n (lv' := [(2, .int t0), (0, .ref q_M), (1, .int x1)]) hx hb dX11_winds_13 rfl hl (by decide) rfl (fun ls hl => ?_)
    refine lv_iconst (v := 0) hx hb dX11_winds_14 (by decide) ?_
    refine lv_istore_n (lv' := [(3, .int 0), (2, .int t0), (0, .ref q_M), (1, .int x1)]) hx hb dX11_winds_15 rfl hl (by decide) rfl (fun ls hl => ?_)
    exact B16 zF t0 0 v_M_acts v_M_waits v_M_place a_M_held a_M_wait a_M_act a_M_clocks a_M_counts a_M_talking a_M_heap _ _ _ (lv_sub hl [2, 3, 1, 0] rfl) hP hD hS hg
  refine lv_aload_n hx hb dX11_winds_0 rfl (lv_at hl 0 rfl) ?_
  obtain ⟨v1, hc2, hg⟩ := zbd hg
  refine zcallV (rest := []) S (c_X11_compile l D cI cJ cZ cA ga q_M q_M_held q_M_now q_M_wait q_M_act u_M_images u_M_kept u_M_text u_M_size u_M_sign u_M_manyAbove u_M_manyBelow u_M_above u_M_below u_M_refused u_M_at u_M_begin u_M_kind u_M_value u_M_read (.ref q_M_heap) (.ref q_M_clocks) (.ref q_M_counts) (.ref q_M_talking) u_M_most u_M_hasA u_M_hasB u_M_talks u_M_big v_M_acts v_M_waits v_M_place a_M_held a_M_now a_M_wait a_M_act v1 hc2) (zgV zw_591 zw_592 zw_593 zw_5 zw_594) rfl hd_X11_compile ⟨rfl, rfl⟩ ⟨Nat.le_of_ble_eq_true rfl, Nat.le_of_ble_eq_true rfl⟩ 0 11 rfl rfl rfl hl.1 rfl (Nat.le_of_ble_eq_true rfl) dX11_winds_1 hP hD hS hA hK hG (isC := [0, 1, 2, 3, 4]) rfl (by decide +kernel) rfl ⟨Nat.zero_le _, Nat.zero_le _⟩ (pl := [some 0, some 1, some 2, some 3, some 4, none, none, none, none]) (nw := 9) rfl (by decide +kernel) (w2 := (ws_X11_winds cI cJ cZ cA q_M q_M_held q_M_now q_M_wait q_M_act q_M_clocks q_M_counts q_M_talking q_M_heap u_M_images u_M_kept u_M_text u_M_size u_M_sign u_M_manyAbove u_M_manyBelow u_M_above u_M_below u_M_refused u_M_at u_M_begin u_M_kind u_M_value u_M_read u_M_most u_M_hasA u_M_hasB u_M_talks u_M_big v1.2.1 v1.2.2.1 v1.2.2.2.1 v1.2.2.2.2.1 a_M_now v1.2.2.2.2.2.1 v1.2.2.2.2.2.2 a_M_clocks a_M_counts a_M_talking a_M_heap)) rfl (st1 := [.int v1.1]) rfl (fun H locs hP hD hS => ?_)
  refine lv_iconst (v := (-1)) hx hb dX11_winds_4 (by decide) ?_
  refine lv_icmp_ne (tgt := 12) hx hb dX11_winds_5 (by decide) (fun h5 => ?_) (fun h5 => ?_)
  · have hg := zn hg h5
    refine lv_iconst (v := 0) hx hb dX11_winds_12 (by decide) ?_
    exact B13 0 v1.2.1 v1.2.2.1 v1.2.2.2.1 v1.2.2.2.2.1 v1.2.2.2.2.2.1 v1.2.2.2.2.2.2 a_M_clocks a_M_counts a_M_talking a_M_heap _ _ _ hl hP hD hS hg
  · have hg := zp hg h5
    refine lv_iconst (v := 1) hx hb dX11_winds_8 (by decide) ?_
    refine lv_goto (tgt := 13) hx hb dX11_winds_9 (by decide) ?_
    exact B13 1 v1.2.1 v1.2.2.1 v1.2.2.2.1 v1.2.2.2.2.1 v1.2.2.2.2.2.1 v1.2.2.2.2.2.2 a_M_clocks a_M_counts a_M_talking a_M_heap _ _ _ hl hP hD hS hg

/-! SpokenClockModel.clock(II)I -/
abbrev ws_X11_clock (cI cJ cZ cA : ClassId) (q_M q_M_refused q_M_held q_M_now q_M_wait q_M_act q_M_clocks q_M_counts q_M_talking q_M_heap : Nat) (u_M_images : Value) (u_M_kept : Value) (u_M_text : Value) (u_M_size : Value) (u_M_sign : Value) (u_M_manyAbove : Value) (u_M_manyBelow : Value) (u_M_above : Value) (u_M_below : Value) (u_M_at : Value) (u_M_begin : Value) (u_M_kind : Value) (u_M_value : Value) (u_M_read : Value) (u_M_most : Value) (u_M_hasA : Value) (u_M_hasB : Value) (u_M_talks : Value) (u_M_big : Value) (v_M_acts : Int32) (v_M_waits : Int32) (v_M_place : Int32) (a_M_refused : Nat → Int32) (a_M_held : Nat → Int32) (a_M_now : Nat → Int32) (a_M_wait : Nat → Int32) (a_M_act : Nat → Int32) (a_M_clocks : Nat → Int32) (a_M_counts : Nat → Int32) (a_M_talking : Nat → Int32) (a_M_heap : Nat → Int64) : va_W := [(q_M, .inr (11, [.ref q_M_now, u_M_images, u_M_kept, u_M_text, u_M_size, u_M_sign, u_M_manyAbove, u_M_manyBelow, u_M_above, u_M_below, .ref q_M_refused, u_M_at, u_M_begin, u_M_kind, u_M_value, u_M_read, .int v_M_acts, .ref q_M_act, .int v_M_waits, .ref q_M_wait, .ref q_M_held, .int v_M_place, .ref q_M_heap, .ref q_M_clocks, .ref q_M_counts, .ref q_M_talking, u_M_most, u_M_hasA, u_M_hasB, u_M_talks, u_M_big])), (q_M_refused, .inl (cI, 3, .inl a_M_refused)), (q_M_held, .inl (cZ, 9, .inl a_M_held)), (q_M_now, .inl (cI, 155, .inl a_M_now)), (q_M_wait, .inl (cI, 80, .inl a_M_wait)), (q_M_act, .inl (cI, 80, .inl a_M_act)), (q_M_clocks, .inl (cI, 482, .inl a_M_clocks)), (q_M_counts, .inl (cI, 1200, .inl a_M_counts)), (q_M_talking, .inl (cZ, 1200, .inl a_M_talking)), (q_M_heap, .inl (cJ, 41, .inr (.inl a_M_heap)))]
abbrev rm_X11_clock : Room := { frames := 5, cells := 0, slots := 0, locals := 120 }
def g_X11_clock_22 (a_M_now : Nat → Int32) (x1 : Int32) (x2 : Int32) (v_M_acts : Int32) (v_M_waits : Int32) (v_M_place : Int32) (a_M_refused : Nat → Int32) (a_M_held : Nat → Int32) (a_M_wait : Nat → Int32) (a_M_act : Nat → Int32) (a_M_clocks : Nat → Int32) (a_M_counts : Nat → Int32) (a_M_talking : Nat → Int32) (a_M_heap : Nat → Int64) : Option (Int32 × Int32 × Int32 × Int32 × (Nat → Int32) × (Nat → Int32) × (Nat → Int32) × (Nat → Int32) × (Nat → Int32) × (Nat → Int32) × (Nat → Int32) × (Nat → Int64)) :=
  (g_X11_refuse (-2) a_M_refused).bind fun v3 =>
  some (v3.1, v_M_acts, v_M_waits, v_M_place, v3.2, a_M_held, a_M_wait, a_M_act, a_M_clocks, a_M_counts, a_M_talking, a_M_heap)
def g_X11_clock (a_M_now : Nat → Int32) (x1 : Int32) (x2 : Int32) (v_M_acts : Int32) (v_M_waits : Int32) (v_M_place : Int32) (a_M_refused : Nat → Int32) (a_M_held : Nat → Int32) (a_M_wait : Nat → Int32) (a_M_act : Nat → Int32) (a_M_clocks : Nat → Int32) (a_M_counts : Nat → Int32) (a_M_talking : Nat → Int32) (a_M_heap : Nat → Int64) : Option (Int32 × Int32 × Int32 × Int32 × (Nat → Int32) × (Nat → Int32) × (Nat → Int32) × (Nat → Int32) × (Nat → Int32) × (Nat → Int32) × (Nat → Int32) × (Nat → Int64)) :=
  (g_X11_in x1.toInt64 (0 : Int64) (1 : Int64)).bind fun v1 =>
  if v1 = 0 then (
    g_X11_clock_22 a_M_now x1 x2 v_M_acts v_M_waits v_M_place a_M_refused a_M_held a_M_wait a_M_act a_M_clocks a_M_counts a_M_talking a_M_heap
  ) else (
    (g_X11_in x2.toInt64 (0 : Int64) (240 : Int64)).bind fun v5 =>
    if v5 = 0 then (
      g_X11_clock_22 a_M_now x1 x2 v_M_acts v_M_waits v_M_place a_M_refused a_M_held a_M_wait a_M_act a_M_clocks a_M_counts a_M_talking a_M_heap
    ) else (
      (g_X11_winds a_M_now 31 v_M_acts v_M_waits v_M_place a_M_held a_M_wait a_M_act a_M_clocks a_M_counts a_M_talking a_M_heap).bind fun v7 =>
      if ((241 * x1) + x2) < 0 ∨ 482 ≤ ((241 * x1) + x2).toNatClampNeg then none else
      some (v7.2.2.2.2.2.2.1 (((241 * x1) + x2).toNatClampNeg), v7.1, v7.2.1, v7.2.2.1, a_M_refused, v7.2.2.2.1, v7.2.2.2.2.1, v7.2.2.2.2.2.1, v7.2.2.2.2.2.2.1, v7.2.2.2.2.2.2.2.1, v7.2.2.2.2.2.2.2.2.1, v7.2.2.2.2.2.2.2.2.2)
    )
  )
theorem hd_X11_clock : yX11_clock.cls = RX11 ∧ yX11_clock.cls ≠ "java/lang/invoke/MethodHandle" ∧ yX11_clock.cls ≠ "java/lang/invoke/VarHandle" ∧ (parseMethodDescriptor yX11_clock.desc).map (fun d => d.parameters.length) = some 2 := by decide +kernel
set_option maxHeartbeats 4000000 in
set_option maxRecDepth 100000 in
theorem c_X11_clock (l : Launch) (D : va_G) (cI cJ cZ cA : ClassId) (ga : Nat → Nat) (q_M q_M_refused q_M_held q_M_now q_M_wait q_M_act q_M_clocks q_M_counts q_M_talking q_M_heap : Nat) (u_M_images : Value) (u_M_kept : Value) (u_M_text : Value) (u_M_size : Value) (u_M_sign : Value) (u_M_manyAbove : Value) (u_M_manyBelow : Value) (u_M_above : Value) (u_M_below : Value) (u_M_at : Value) (u_M_begin : Value) (u_M_kind : Value) (u_M_value : Value) (u_M_read : Value) (u_M_most : Value) (u_M_hasA : Value) (u_M_hasB : Value) (u_M_talks : Value) (u_M_big : Value) (v_M_acts : Int32) (v_M_waits : Int32) (v_M_place : Int32) (a_M_refused : Nat → Int32) (a_M_held : Nat → Int32) (a_M_now : Nat → Int32) (a_M_wait : Nat → Int32) (a_M_act : Nat → Int32) (a_M_clocks : Nat → Int32) (a_M_counts : Nat → Int32) (a_M_talking : Nat → Int32) (a_M_heap : Nat → Int64) (x1 : Int32) (x2 : Int32) (o : Int32 × Int32 × Int32 × Int32 × (Nat → Int32) × (Nat → Int32) × (Nat → Int32) × (Nat → Int32) × (Nat → Int32) × (Nat → Int32) × (Nat → Int32) × (Nat → Int64)) (hg : g_X11_clock a_M_now x1 x2 v_M_acts v_M_waits v_M_place a_M_refused a_M_held a_M_wait a_M_act a_M_clocks a_M_counts a_M_talking a_M_heap = some o) : zM l yX11_clock (Cond.code yX11_clock cX11_clock 3 (some .int) :: wsL_law) rm_X11_clock D (zTy cI cJ cZ cA) ga [.ref q_M, .int x1, .int x2] (ws_X11_clock cI cJ cZ cA q_M q_M_refused q_M_held q_M_now q_M_wait q_M_act q_M_clocks q_M_counts q_M_talking q_M_heap u_M_images u_M_kept u_M_text u_M_size u_M_sign u_M_manyAbove u_M_manyBelow u_M_above u_M_below u_M_at u_M_begin u_M_kind u_M_value u_M_read u_M_most u_M_hasA u_M_hasB u_M_talks u_M_big v_M_acts v_M_waits v_M_place a_M_refused a_M_held a_M_now a_M_wait a_M_act a_M_clocks a_M_counts a_M_talking a_M_heap) (ws_X11_clock cI cJ cZ cA q_M q_M_refused q_M_held q_M_now q_M_wait q_M_act q_M_clocks q_M_counts q_M_talking q_M_heap u_M_images u_M_kept u_M_text u_M_size u_M_sign u_M_manyAbove u_M_manyBelow u_M_above u_M_below u_M_at u_M_begin u_M_kind u_M_value u_M_read u_M_most u_M_hasA u_M_hasB u_M_talks u_M_big o.2.1 o.2.2.1 o.2.2.2.1 o.2.2.2.2.1 o.2.2.2.2.2.1 a_M_now o.2.2.2.2.2.2.1 o.2.2.2.2.2.2.2.1 o.2.2.2.2.2.2.2.2.1 o.2.2.2.2.2.2.2.2.2.1 o.2.2.2.2.2.2.2.2.2.2.1 o.2.2.2.2.2.2.2.2.2.2.2) (some (.int o.1)) := by
  refine zenterI (own := RX11) (by decide) rfl rfl (Nat.le_of_ble_eq_true rfl) ?_
  intro p e s m args below meth c A ls Q S hA hK hG hl hP hD hS hret0
  have hx := S.1
  have hb := S.2.1
  have ht : ∀ w, w ∈ wsL_law → w.before args s = true := fun w h => S.2.2.2.2 w (List.mem_cons_of_mem _ h)
  have hret : ∀ (r9 : Int32) (v_M_acts : Int32) (v_M_waits : Int32) (v_M_place : Int32) (a_M_refused : Nat → Int32) (a_M_held : Nat → Int32) (a_M_wait : Nat → Int32) (a_M_act : Nat → Int32) (a_M_clocks : Nat → Int32) (a_M_counts : Nat → Int32) (a_M_talking : Nat → Int32) (a_M_heap : Nat → Int64), (some (r9, v_M_acts, v_M_waits, v_M_place, a_M_refused, a_M_held, a_M_wait, a_M_act, a_M_clocks, a_M_counts, a_M_talking, a_M_heap) : Option (Int32 × Int32 × Int32 × Int32 × (Nat → Int32) × (Nat → Int32) × (Nat → Int32) × (Nat → Int32) × (Nat → Int32) × (Nat → Int32) × (Nat → Int32) × (Nat → Int64))) = some o → ∀ (H : Heap) (locs : List Loc) (pc : Nat) (ls : Array Slot), va_P D vwCl (ws_X11_clock cI cJ cZ cA q_M q_M_refused q_M_held q_M_now q_M_wait q_M_act q_M_clocks q_M_counts q_M_talking q_M_heap u_M_images u_M_kept u_M_text u_M_size u_M_sign u_M_manyAbove u_M_manyBelow u_M_above u_M_below u_M_at u_M_begin u_M_kind u_M_value u_M_read u_M_most u_M_hasA u_M_hasB u_M_talks u_M_big v_M_acts v_M_waits v_M_place a_M_refused a_M_held a_M_now a_M_wait a_M_act a_M_clocks a_M_counts a_M_talking a_M_heap) H → va_S A s.heap H locs → decode cX11_clock pc = .ok (.ireturn, 1) → W p l e rm_X11_clock s m args below meth c H locs 0 0 Q (F0 m pc ls [.int r9]) := by
    intro r9 v_M_acts v_M_waits v_M_place a_M_refused a_M_held a_M_wait a_M_act a_M_clocks a_M_counts a_M_talking a_M_heap he; cases he; exact hret0
  have hl : lv_has ls 3 [(0, .ref q_M), (1, .int x1), (2, .int x2)] := hl
  have B22 : ∀ (v_M_acts : Int32) (v_M_waits : Int32) (v_M_place : Int32) (a_M_refused : Nat → Int32) (a_M_held : Nat → Int32) (a_M_wait : Nat → Int32) (a_M_act : Nat → Int32) (a_M_clocks : Nat → Int32) (a_M_counts : Nat → Int32) (a_M_talking : Nat → Int32) (a_M_heap : Nat → Int64) (H : Heap) (locs : List Loc) (ls : Array Slot) (hl : lv_has ls 3 [(0, .ref q_M)]) (hP : va_P D vwCl (ws_X11_clock cI cJ cZ cA q_M q_M_refused q_M_held q_M_now q_M_wait q_M_act q_M_clocks q_M_counts q_M_talking q_M_heap u_M_images u_M_kept u_M_text u_M_size u_M_sign u_M_manyAbove u_M_manyBelow u_M_above u_M_below u_M_at u_M_begin u_M_kind u_M_value u_M_read u_M_most u_M_hasA u_M_hasB u_M_talks u_M_big v_M_acts v_M_waits v_M_place a_M_refused a_M_held a_M_now a_M_wait a_M_act a_M_clocks a_M_counts a_M_talking a_M_heap) H) (hD : va_D A (ws_X11_clock cI cJ cZ cA q_M q_M_refused q_M_held q_M_now q_M_wait q_M_act q_M_clocks q_M_counts q_M_talking q_M_heap u_M_images u_M_kept u_M_text u_M_size u_M_sign u_M_manyAbove u_M_manyBelow u_M_above u_M_below u_M_at u_M_begin u_M_kind u_M_value u_M_read u_M_most u_M_hasA u_M_hasB u_M_talks u_M_big v_M_acts v_M_waits v_M_place a_M_refused a_M_held a_M_now a_M_wait a_M_act a_M_clocks a_M_counts a_M_talking a_M_heap)) (hS : va_S A s.heap H locs), g_X11_clock_22 a_M_now x1 x2 v_M_acts v_M_waits v_M_place a_M_refused a_M_held a_M_wait a_M_act a_M_clocks a_M_counts a_M_talking a_M_heap = some o → W p l e rm_X11_clock s m args below meth c H locs 0 0 Q (F0 m 22 ls []) := by
    intro  v_M_acts v_M_waits v_M_place a_M_refused a_M_held a_M_wait a_M_act a_M_clocks a_M_counts a_M_talking a_M_heap H locs ls hl hP hD hS hg
    refine lv_aload_n hx hb dX11_clock_22 rfl (lv_at hl 0 rfl) ?_
    refine lv_bipush (v := (-2)) hx hb dX11_clock_23 (by decide) ?_
    obtain ⟨v3, hc4, hg⟩ := zbd hg
    refine zcallV (rest := []) S (c_X11_refuse l D cI cJ cZ cA ga q_M q_M_refused (.ref q_M_now) u_M_images u_M_kept u_M_text u_M_size u_M_sign u_M_manyAbove u_M_manyBelow u_M_above u_M_below u_M_at u_M_begin u_M_kind u_M_value u_M_read (.int v_M_acts) (.ref q_M_act) (.int v_M_waits) (.ref q_M_wait) (.ref q_M_held) (.int v_M_place) (.ref q_M_heap) (.ref q_M_clocks) (.ref q_M_counts) (.ref q_M_talking) u_M_most u_M_hasA u_M_hasB u_M_talks u_M_big a_M_refused (-2) v3 hc4) (zgV zw_223 zw_224 zw_225 zw_5 zw_226) rfl hd_X11_refuse ⟨rfl, rfl⟩ ⟨Nat.le_of_ble_eq_true rfl, Nat.le_of_ble_eq_true rfl⟩ 0 11 rfl rfl rfl hl.1 rfl (Nat.le_of_ble_eq_true rfl) dX11_clock_25 hP hD hS hA hK hG (isC := [0, 1]) rfl (by decide +kernel) rfl ⟨Nat.zero_le _, Nat.zero_le _⟩ (pl := [some 0, some 1, none, none, none, none, none, none, none, none]) (nw := 10) rfl (by decide +kernel) (w2 := (ws_X11_clock cI cJ cZ cA q_M q_M_refused q_M_held q_M_now q_M_wait q_M_act q_M_clocks q_M_counts q_M_talking q_M_heap u_M_images u_M_kept u_M_text u_M_size u_M_sign u_M_manyAbove u_M_manyBelow u_M_above u_M_below u_M_at u_M_begin u_M_kind u_M_value u_M_read u_M_most u_M_hasA u_M_hasB u_M_talks u_M_big v_M_acts v_M_waits v_M_place v3.2 a_M_held a_M_now a_M_wait a_M_act a_M_clocks a_M_counts a_M_talking a_M_heap)) rfl (st1 := [.int v3.1]) rfl (fun H locs hP hD hS => ?_)
    exact hret v3.1 v_M_acts v_M_waits v_M_place v3.2 a_M_held a_M_wait a_M_act a_M_clocks a_M_counts a_M_talking a_M_heap hg _ _ _ _ hP hS dX11_clock_28
  refine lv_iload_n hx hb dX11_clock_0 rfl (lv_at hl 1 rfl) ?_
  refine lv_i2l hx hb dX11_clock_1 rfl ?_
  refine lv_lconst (v := 0) hx hb dX11_clock_2 (by decide) ?_
  refine lv_lconst (v := 1) hx hb dX11_clock_3 (by decide) ?_
  obtain ⟨v1, hc2, hg⟩ := zbd hg
  refine zcallS (rest := []) S (c_X11_in l D cI cJ cZ cA ga x1.toInt64 (0 : Int64) (1 : Int64) v1 hc2) (zgS zw_220 zw_221 zw_5 zw_222) rfl hd_X11_in ⟨rfl, rfl⟩ ⟨Nat.le_of_ble_eq_true rfl, Nat.le_of_ble_eq_true rfl⟩ rfl hl.1 rfl (Nat.le_of_ble_eq_true rfl) dX11_clock_4 hP hD hS hA hK hG (isC := []) rfl (by decide +kernel) rfl ⟨Nat.zero_le _, Nat.zero_le _⟩ (pl := [none, none, none, none, none, none, none, none, none, none]) (nw := 10) rfl (by decide +kernel) (w2 := (ws_X11_clock cI cJ cZ cA q_M q_M_refused q_M_held q_M_now q_M_wait q_M_act q_M_clocks q_M_counts q_M_talking q_M_heap u_M_images u_M_kept u_M_text u_M_size u_M_sign u_M_manyAbove u_M_manyBelow u_M_above u_M_below u_M_at u_M_begin u_M_kind u_M_value u_M_read u_M_most u_M_hasA u_M_hasB u_M_talks u_M_big v_M_acts v_M_waits v_M_place a_M_refused a_M_held a_M_now a_M_wait a_M_act a_M_clocks a_M_counts a_M_talking a_M_heap)) rfl (st1 := [.int v1]) rfl (fun H locs hP hD hS => ?_)
  refine lv_if_eq (tgt := 22) hx hb dX11_clock_7 (by decide) (fun h7 => ?_) (fun h7 => ?_)
  · have hg := zp hg h7
    exact B22 v_M_acts v_M_waits v_M_place a_M_refused a_M_held a_M_wait a_M_act a_M_clocks a_M_counts a_M_talking a_M_heap _ _ _ (lv_sub hl [0] rfl) hP hD hS hg
  · have hg := zn hg h7
    refine lv_iload_n hx hb dX11_clock_10 rfl (lv_at hl 2 rfl) ?_
    refine lv_i2l hx hb dX11_clock_11 rfl ?_
    refine lv_lconst (v := 0) hx hb dX11_clock_12 (by decide) ?_
    refine lv_ldc2 (v := 240) hx hb S.2.2.2.1 (ht _ zw_219) dX11_clock_13 ?_
    obtain ⟨v5, hc6, hg⟩ := zbd hg
    refine zcallS (rest := []) S (c_X11_in l D cI cJ cZ cA ga x2.toInt64 (0 : Int64) (240 : Int64) v5 hc6) (zgS zw_220 zw_221 zw_5 zw_222) rfl hd_X11_in ⟨rfl, rfl⟩ ⟨Nat.le_of_ble_eq_true rfl, Nat.le_of_ble_eq_true rfl⟩ rfl hl.1 rfl (Nat.le_of_ble_eq_true rfl) dX11_clock_16 hP hD hS hA hK hG (isC := []) rfl (by decide +kernel) rfl ⟨Nat.zero_le _, Nat.zero_le _⟩ (pl := [none, none, none, none, none, none, none, none, none, none]) (nw := 10) rfl (by decide +kernel) (w2 := (ws_X11_clock cI cJ cZ cA q_M q_M_refused q_M_held q_M_now q_M_wait q_M_act q_M_clocks q_M_counts q_M_talking q_M_heap u_M_images u_M_kept u_M_text u_M_size u_M_sign u_M_manyAbove u_M_manyBelow u_M_above u_M_below u_M_at u_M_begin u_M_kind u_M_value u_M_read u_M_most u_M_hasA u_M_hasB u_M_talks u_M_big v_M_acts v_M_waits v_M_place a_M_refused a_M_held a_M_now a_M_wait a_M_act a_M_clocks a_M_counts a_M_talking a_M_heap)) rfl (st1 := [.int v5]) rfl (fun H locs hP hD hS => ?_)
    refine lv_if_ne (tgt := 29) hx hb dX11_clock_19 (by decide) (fun h19 => ?_) (fun h19 => ?_)
    · have hg := zn hg h19
      refine lv_aload_n hx hb dX11_clock_29 rfl (lv_at hl 0 rfl) ?_
      refine lv_bipush (v := 31) hx hb dX11_clock_30 (by decide) ?_
      obtain ⟨v7, hc8, hg⟩ := zbd hg
      refine zcallV (rest := []) S (c_X11_winds l D cI cJ cZ cA ga q_M q_M_held q_M_now q_M_wait q_M_act q_M_clocks q_M_counts q_M_talking q_M_heap u_M_images u_M_kept u_M_text u_M_size u_M_sign u_M_manyAbove u_M_manyBelow u_M_above u_M_below (.ref q_M_refused) u_M_at u_M_begin u_M_kind u_M_value u_M_read u_M_most u_M_hasA u_M_hasB u_M_talks u_M_big v_M_acts v_M_waits v_M_place a_M_held a_M_now a_M_wait a_M_act a_M_clocks a_M_counts a_M_talking a_M_heap 31 v7 hc8) (zgV zw_678 zw_679 zw_680 zw_5 zw_681) rfl hd_X11_winds ⟨rfl, rfl⟩ ⟨Nat.le_of_ble_eq_true rfl, Nat.le_of_ble_eq_true rfl⟩ 0 11 rfl rfl rfl hl.1 rfl (Nat.le_of_ble_eq_true rfl) dX11_clock_32 hP hD hS hA hK hG (isC := [0, 2, 3, 4, 5, 6, 7, 8, 9]) rfl (by decide +kernel) rfl ⟨Nat.zero_le _, Nat.zero_le _⟩ (pl := [some 0, none, some 1, some 2, some 3, some 4, some 5, some 6, some 7, some 8]) (nw := 10) rfl (by decide +kernel) (w2 := (ws_X11_clock cI cJ cZ cA q_M q_M_refused q_M_held q_M_now q_M_wait q_M_act q_M_clocks q_M_counts q_M_talking q_M_heap u_M_images u_M_kept u_M_text u_M_size u_M_sign u_M_manyAbove u_M_manyBelow u_M_above u_M_below u_M_at u_M_begin u_M_kind u_M_value u_M_read u_M_most u_M_hasA u_M_hasB u_M_talks u_M_big v7.1 v7.2.1 v7.2.2.1 a_M_refused v7.2.2.2.1 a_M_now v7.2.2.2.2.1 v7.2.2.2.2.2.1 v7.2.2.2.2.2.2.1 v7.2.2.2.2.2.2.2.1 v7.2.2.2.2.2.2.2.2.1 v7.2.2.2.2.2.2.2.2.2)) rfl (st1 := []) rfl (fun H locs hP hD hS => ?_)
      refine lv_aload_n hx hb dX11_clock_35 rfl (lv_at hl 0 rfl) ?_
      refine zget (C := RX11) (T := TX11) (N := 31) S hK hP 0 rfl rfl 23 (Nat.le_of_ble_eq_true rfl) zf_11 zw_162 rfl dX11_clock_36 ?_
      refine lv_sipush (v := 241) hx hb dX11_clock_39 (by decide) ?_
      refine lv_iload_n hx hb dX11_clock_42 rfl (lv_at hl 1 rfl) ?_
      refine lv_imul hx hb dX11_clock_43 ?_
      refine lv_iload_n hx hb dX11_clock_44 rfl (lv_at hl 2 rfl) ?_
      refine lv_iadd hx hb dX11_clock_45 ?_
      obtain ⟨h9, hg⟩ := zck hg
      refine ziald hx hb hK hP 6 0 rfl rfl (j := (((241 * x1) + x2).toNatClampNeg)) h9 rfl dX11_clock_46 ?_
      exact hret (v7.2.2.2.2.2.2.1 (((241 * x1) + x2).toNatClampNeg)) v7.1 v7.2.1 v7.2.2.1 a_M_refused v7.2.2.2.1 v7.2.2.2.2.1 v7.2.2.2.2.2.1 v7.2.2.2.2.2.2.1 v7.2.2.2.2.2.2.2.1 v7.2.2.2.2.2.2.2.2.1 v7.2.2.2.2.2.2.2.2.2 hg _ _ _ _ hP hS dX11_clock_47
    · have hg := zp hg h19
      exact B22 v_M_acts v_M_waits v_M_place a_M_refused a_M_held a_M_wait a_M_act a_M_clocks a_M_counts a_M_talking a_M_heap _ _ _ (lv_sub hl [0] rfl) hP hD hS hg

/-! SpokenClockModel.counts(II)I -/
abbrev ws_X11_counts (cI cJ cZ cA : ClassId) (q_M q_M_now q_M_refused q_M_held q_M_wait q_M_act q_M_clocks q_M_counts q_M_talking q_M_heap : Nat) (u_M_images : Value) (u_M_kept : Value) (u_M_text : Value) (u_M_size : Value) (u_M_sign : Value) (u_M_manyAbove : Value) (u_M_manyBelow : Value) (u_M_above : Value) (u_M_below : Value) (u_M_at : Value) (u_M_begin : Value) (u_M_kind : Value) (u_M_value : Value) (u_M_read : Value) (u_M_most : Value) (u_M_hasA : Value) (u_M_hasB : Value) (u_M_talks : Value) (u_M_big : Value) (v_M_acts : Int32) (v_M_waits : Int32) (v_M_place : Int32) (a_M_now : Nat → Int32) (a_M_refused : Nat → Int32) (a_M_held : Nat → Int32) (a_M_wait : Nat → Int32) (a_M_act : Nat → Int32) (a_M_clocks : Nat → Int32) (a_M_counts : Nat → Int32) (a_M_talking : Nat → Int32) (a_M_heap : Nat → Int64) : va_W := [(q_M, .inr (11, [.ref q_M_now, u_M_images, u_M_kept, u_M_text, u_M_size, u_M_sign, u_M_manyAbove, u_M_manyBelow, u_M_above, u_M_below, .ref q_M_refused, u_M_at, u_M_begin, u_M_kind, u_M_value, u_M_read, .int v_M_acts, .ref q_M_act, .int v_M_waits, .ref q_M_wait, .ref q_M_held, .int v_M_place, .ref q_M_heap, .ref q_M_clocks, .ref q_M_counts, .ref q_M_talking, u_M_most, u_M_hasA, u_M_hasB, u_M_talks, u_M_big])), (q_M_now, .inl (cI, 155, .inl a_M_now)), (q_M_refused, .inl (cI, 3, .inl a_M_refused)), (q_M_held, .inl (cZ, 9, .inl a_M_held)), (q_M_wait, .inl (cI, 80, .inl a_M_wait)), (q_M_act, .inl (cI, 80, .inl a_M_act)), (q_M_clocks, .inl (cI, 482, .inl a_M_clocks)), (q_M_counts, .inl (cI, 1200, .inl a_M_counts)), (q_M_talking, .inl (cZ, 1200, .inl a_M_talking)), (q_M_heap, .inl (cJ, 41, .inr (.inl a_M_heap)))]
abbrev rm_X11_counts : Room := { frames := 5, cells := 0, slots := 0, locals := 120 }
def g_X11_counts_30 (a_M_now : Nat → Int32) (x1 : Int32) (x2 : Int32) (v_M_acts : Int32) (v_M_waits : Int32) (v_M_place : Int32) (a_M_refused : Nat → Int32) (a_M_held : Nat → Int32) (a_M_wait : Nat → Int32) (a_M_act : Nat → Int32) (a_M_clocks : Nat → Int32) (a_M_counts : Nat → Int32) (a_M_talking : Nat → Int32) (a_M_heap : Nat → Int64) : Option (Int32 × Int32 × Int32 × Int32 × (Nat → Int32) × (Nat → Int32) × (Nat → Int32) × (Nat → Int32) × (Nat → Int32) × (Nat → Int32) × (Nat → Int32) × (Nat → Int64)) :=
  (g_X11_refuse (-2) a_M_refused).bind fun v3 =>
  some (v3.1, v_M_acts, v_M_waits, v_M_place, v3.2, a_M_held, a_M_wait, a_M_act, a_M_clocks, a_M_counts, a_M_talking, a_M_heap)
def g_X11_counts (a_M_now : Nat → Int32) (x1 : Int32) (x2 : Int32) (v_M_acts : Int32) (v_M_waits : Int32) (v_M_place : Int32) (a_M_refused : Nat → Int32) (a_M_held : Nat → Int32) (a_M_wait : Nat → Int32) (a_M_act : Nat → Int32) (a_M_clocks : Nat → Int32) (a_M_counts : Nat → Int32) (a_M_talking : Nat → Int32) (a_M_heap : Nat → Int64) : Option (Int32 × Int32 × Int32 × Int32 × (Nat → Int32) × (Nat → Int32) × (Nat → Int32) × (Nat → Int32) × (Nat → Int32) × (Nat → Int32) × (Nat → Int32) × (Nat → Int64)) :=
  (g_X11_in x1.toInt64 (0 : Int64) (((a_M_now 3) - 1).toInt64)).bind fun v1 =>
  if v1 = 0 then (
    g_X11_counts_30 a_M_now x1 x2 v_M_acts v_M_waits v_M_place a_M_refused a_M_held a_M_wait a_M_act a_M_clocks a_M_counts a_M_talking a_M_heap
  ) else (
    (g_X11_in x2.toInt64 (0 : Int64) (239 : Int64)).bind fun v5 =>
    if v5 = 0 then (
      g_X11_counts_30 a_M_now x1 x2 v_M_acts v_M_waits v_M_place a_M_refused a_M_held a_M_wait a_M_act a_M_clocks a_M_counts a_M_talking a_M_heap
    ) else (
      (g_X11_winds a_M_now 31 v_M_acts v_M_waits v_M_place a_M_held a_M_wait a_M_act a_M_clocks a_M_counts a_M_talking a_M_heap).bind fun v7 =>
      if ((240 * x1) + x2) < 0 ∨ 1200 ≤ ((240 * x1) + x2).toNatClampNeg then none else
      some (v7.2.2.2.2.2.2.2.1 (((240 * x1) + x2).toNatClampNeg), v7.1, v7.2.1, v7.2.2.1, a_M_refused, v7.2.2.2.1, v7.2.2.2.2.1, v7.2.2.2.2.2.1, v7.2.2.2.2.2.2.1, v7.2.2.2.2.2.2.2.1, v7.2.2.2.2.2.2.2.2.1, v7.2.2.2.2.2.2.2.2.2)
    )
  )
theorem hd_X11_counts : yX11_counts.cls = RX11 ∧ yX11_counts.cls ≠ "java/lang/invoke/MethodHandle" ∧ yX11_counts.cls ≠ "java/lang/invoke/VarHandle" ∧ (parseMethodDescriptor yX11_counts.desc).map (fun d => d.parameters.length) = some 2 := by decide +kernel
set_option maxHeartbeats 4000000 in
set_option maxRecDepth 100000 in
theorem c_X11_counts (l : Launch) (D : va_G) (cI cJ cZ cA : ClassId) (ga : Nat → Nat) (q_M q_M_now q_M_refused q_M_held q_M_wait q_M_act q_M_clocks q_M_counts q_M_talking q_M_heap : Nat) (u_M_images : Value) (u_M_kept : Value) (u_M_text : Value) (u_M_size : Value) (u_M_sign : Value) (u_M_manyAbove : Value) (u_M_manyBelow : Value) (u_M_above : Value) (u_M_below : Value) (u_M_at : Value) (u_M_begin : Value) (u_M_kind : Value) (u_M_value : Value) (u_M_read : Value) (u_M_most : Value) (u_M_hasA : Value) (u_M_hasB : Value) (u_M_talks : Value) (u_M_big : Value) (v_M_acts : Int32) (v_M_waits : Int32) (v_M_place : Int32) (a_M_now : Nat → Int32) (a_M_refused : Nat → Int32) (a_M_held : Nat → Int32) (a_M_wait : Nat → Int32) (a_M_act : Nat → Int32) (a_M_clocks : Nat → Int32) (a_M_counts : Nat → Int32) (a_M_talking : Nat → Int32) (a_M_heap : Nat → Int64) (x1 : Int32) (x2 : Int32) (o : Int32 × Int32 × Int32 × Int32 × (Nat → Int32) × (Nat → Int32) × (Nat → Int32) × (Nat → Int32) × (Nat → Int32) × (Nat → Int32) × (Nat → Int32) × (Nat → Int64)) (hg : g_X11_counts a_M_now x1 x2 v_M_acts v_M_waits v_M_place a_M_refused a_M_held a_M_wait a_M_act a_M_clocks a_M_counts a_M_talking a_M_heap = some o) : zM l yX11_counts (Cond.code yX11_counts cX11_counts 3 (some .int) :: wsL_law) rm_X11_counts D (zTy cI cJ cZ cA) ga [.ref q_M, .int x1, .int x2] (ws_X11_counts cI cJ cZ cA q_M q_M_now q_M_refused q_M_held q_M_wait q_M_act q_M_clocks q_M_counts q_M_talking q_M_heap u_M_images u_M_kept u_M_text u_M_size u_M_sign u_M_manyAbove u_M_manyBelow u_M_above u_M_below u_M_at u_M_begin u_M_kind u_M_value u_M_read u_M_most u_M_hasA u_M_hasB u_M_talks u_M_big v_M_acts v_M_waits v_M_place a_M_now a_M_refused a_M_held a_M_wait a_M_act a_M_clocks a_M_counts a_M_talking a_M_heap) (ws_X11_counts cI cJ cZ cA q_M q_M_now q_M_refused q_M_held q_M_wait q_M_act q_M_clocks q_M_counts q_M_talking q_M_heap u_M_images u_M_kept u_M_text u_M_size u_M_sign u_M_manyAbove u_M_manyBelow u_M_above u_M_below u_M_at u_M_begin u_M_kind u_M_value u_M_read u_M_most u_M_hasA u_M_hasB u_M_talks u_M_big o.2.1 o.2.2.1 o.2.2.2.1 a_M_now o.2.2.2.2.1 o.2.2.2.2.2.1 o.2.2.2.2.2.2.1 o.2.2.2.2.2.2.2.1 o.2.2.2.2.2.2.2.2.1 o.2.2.2.2.2.2.2.2.2.1 o.2.2.2.2.2.2.2.2.2.2.1 o.2.2.2.2.2.2.2.2.2.2.2) (some (.int o.1)) := by
  refine zenterI (own := RX11) (by decide) rfl rfl (Nat.le_of_ble_eq_true rfl) ?_
  intro p e s m args below meth c A ls Q S hA hK hG hl hP hD hS hret0
  have hx := S.1
  have hb := S.2.1
  have ht : ∀ w, w ∈ wsL_law → w.before args s = true := fun w h => S.2.2.2.2 w (List.mem_cons_of_mem _ h)
  have hret : ∀ (r9 : Int32) (v_M_acts : Int32) (v_M_waits : Int32) (v_M_place : Int32) (a_M_refused : Nat → Int32) (a_M_held : Nat → Int32) (a_M_wait : Nat → Int32) (a_M_act : Nat → Int32) (a_M_clocks : Nat → Int32) (a_M_counts : Nat → Int32) (a_M_talking : Nat → Int32) (a_M_heap : Nat → Int64), (some (r9, v_M_acts, v_M_waits, v_M_place, a_M_refused, a_M_held, a_M_wait, a_M_act, a_M_clocks, a_M_counts, a_M_talking, a_M_heap) : Option (Int32 × Int32 × Int32 × Int32 × (Nat → Int32) × (Nat → Int32) × (Nat → Int32) × (Nat → Int32) × (Nat → Int32) × (Nat → Int32) × (Nat → Int32) × (Nat → Int64))) = some o → ∀ (H : Heap) (locs : List Loc) (pc : Nat) (ls : Array Slot), va_P D vwCl (ws_X11_counts cI cJ cZ cA q_M q_M_now q_M_refused q_M_held q_M_wait q_M_act q_M_clocks q_M_counts q_M_talking q_M_heap u_M_images u_M_kept u_M_text u_M_size u_M_sign u_M_manyAbove u_M_manyBelow u_M_above u_M_below u_M_at u_M_begin u_M_kind u_M_value u_M_read u_M_most u_M_hasA u_M_hasB u_M_talks u_M_big v_M_acts v_M_waits v_M_place a_M_now a_M_refused a_M_held a_M_wait a_M_act a_M_clocks a_M_counts a_M_talking a_M_heap) H → va_S A s.heap H locs → decode cX11_counts pc = .ok (.ireturn, 1) → W p l e rm_X11_counts s m args below meth c H locs 0 0 Q (F0 m pc ls [.int r9]) := by
    intro r9 v_M_acts v_M_waits v_M_place a_M_refused a_M_held a_M_wait a_M_act a_M_clocks a_M_counts a_M_talking a_M_heap he; cases he; exact hret0
  have hl : lv_has ls 3 [(0, .ref q_M), (1, .int x1), (2, .int x2)] := hl
  have B30 : ∀ (v_M_acts : Int32) (v_M_waits : Int32) (v_M_place : Int32) (a_M_refused : Nat → Int32) (a_M_held : Nat → Int32) (a_M_wait : Nat → Int32) (a_M_act : Nat → Int32) (a_M_clocks : Nat → Int32) (a_M_counts : Nat → Int32) (a_M_talking : Nat → Int32) (a_M_heap : Nat → Int64) (H : Heap) (locs : List Loc) (ls : Array Slot) (hl : lv_has ls 3 [(0, .ref q_M)]) (hP : va_P D vwCl (ws_X11_counts cI cJ cZ cA q_M q_M_now q_M_refused q_M_held q_M_wait q_M_act q_M_clocks q_M_counts q_M_talking q_M_heap u_M_images u_M_kept u_M_text u_M_size u_M_sign u_M_manyAbove u_M_manyBelow u_M_above u_M_below u_M_at u_M_begin u_M_kind u_M_value u_M_read u_M_most u_M_hasA u_M_hasB u_M_talks u_M_big v_M_acts v_M_waits v_M_place a_M_now a_M_refused a_M_held a_M_wait a_M_act a_M_clocks a_M_counts a_M_talking a_M_heap) H) (hD : va_D A (ws_X11_counts cI cJ cZ cA q_M q_M_now q_M_refused q_M_held q_M_wait q_M_act q_M_clocks q_M_counts q_M_talking q_M_heap u_M_images u_M_kept u_M_text u_M_size u_M_sign u_M_manyAbove u_M_manyBelow u_M_above u_M_below u_M_at u_M_begin u_M_kind u_M_value u_M_read u_M_most u_M_hasA u_M_hasB u_M_talks u_M_big v_M_acts v_M_waits v_M_place a_M_now a_M_refused a_M_held a_M_wait a_M_act a_M_clocks a_M_counts a_M_talking a_M_heap)) (hS : va_S A s.heap H locs), g_X11_counts_30 a_M_now x1 x2 v_M_acts v_M_waits v_M_place a_M_refused a_M_held a_M_wait a_M_act a_M_clocks a_M_counts a_M_talking a_M_heap = some o → W p l e rm_X11_counts s m args below meth c H locs 0 0 Q (F0 m 30 ls []) := by
    intro  v_M_acts v_M_waits v_M_place a_M_refused a_M_held a_M_wait a_M_act a_M_clocks a_M_counts a_M_talking a_M_heap H locs ls hl hP hD hS hg
    refine lv_aload_n hx hb dX11_counts_30 rfl (lv_at hl 0 rfl) ?_
    refine lv_bipush (v := (-2)) hx hb dX11_counts_31 (by decide) ?_
    obtain ⟨v3, hc4, hg⟩ := zbd hg
    refine zcallV (rest := []) S (c_X11_refuse l D cI cJ cZ cA ga q_M q_M_refused (.ref q_M_now) u_M_images u_M_kept u_M_text u_M_size u_M_sign u_M_manyAbove u_M_manyBelow u_M_above u_M_below u_M_at u_M_begin u_M_kind u_M_value u_M_read (.int v_M_acts) (.ref q_M_act) (.int v_M_waits) (.ref q_M_wait) (.ref q_M_held) (.int v_M_place) (.ref q_M_heap) (.ref q_M_clocks) (.ref q_M_counts) (.ref q_M_talking) u_M_most u_M_hasA u_M_hasB u_M_talks u_M_big a_M_refused (-2) v3 hc4) (zgV zw_223 zw_224 zw_225 zw_5 zw_226) rfl hd_X11_refuse ⟨rfl, rfl⟩ ⟨Nat.le_of_ble_eq_true rfl, Nat.le_of_ble_eq_true rfl⟩ 0 11 rfl rfl rfl hl.1 rfl (Nat.le_of_ble_eq_true rfl) dX11_counts_33 hP hD hS hA hK hG (isC := [0, 2]) rfl (by decide +kernel) rfl ⟨Nat.zero_le _, Nat.zero_le _⟩ (pl := [some 0, none, some 1, none, none, none, none, none, none, none]) (nw := 10) rfl (by decide +kernel) (w2 := (ws_X11_counts cI cJ cZ cA q_M q_M_now q_M_refused q_M_held q_M_wait q_M_act q_M_clocks q_M_counts q_M_talking q_M_heap u_M_images u_M_kept u_M_text u_M_size u_M_sign u_M_manyAbove u_M_manyBelow u_M_above u_M_below u_M_at u_M_begin u_M_kind u_M_value u_M_read u_M_most u_M_hasA u_M_hasB u_M_talks u_M_big v_M_acts v_M_waits v_M_place a_M_now v3.2 a_M_held a_M_wait a_M_act a_M_clocks a_M_counts a_M_talking a_M_heap)) rfl (st1 := [.int v3.1]) rfl (fun H locs hP hD hS => ?_)
    exact hret v3.1 v_M_acts v_M_waits v_M_place v3.2 a_M_held a_M_wait a_M_act a_M_clocks a_M_counts a_M_talking a_M_heap hg _ _ _ _ hP hS dX11_counts_36
  refine lv_iload_n hx hb dX11_counts_0 rfl (lv_at hl 1 rfl) ?_
  refine lv_i2l hx hb dX11_counts_1 rfl ?_
  refine lv_lconst (v := 0) hx hb dX11_counts_2 (by decide) ?_
  refine lv_aload_n hx hb dX11_counts_3 rfl (lv_at hl 0 rfl) ?_
  refine zget (C := RX11) (T := TX11) (N := 31) S hK hP 0 rfl rfl 0 (Nat.le_of_ble_eq_true rfl) zf_11 zw_149 rfl dX11_counts_4 ?_
  refine lv_iconst (v := 3) hx hb dX11_counts_7 (by decide) ?_
  refine ziald hx hb hK hP 1 0 rfl rfl (j := 3) (zin (by decide)) (by decide) dX11_counts_8 ?_
  refine lv_iconst (v := 1) hx hb dX11_counts_9 (by decide) ?_
  refine lv_isub hx hb dX11_counts_10 ?_
  refine lv_i2l hx hb dX11_counts_11 rfl ?_
  obtain ⟨v1, hc2, hg⟩ := zbd hg
  refine zcallS (rest := []) S (c_X11_in l D cI cJ cZ cA ga x1.toInt64 (0 : Int64) (((a_M_now 3) - 1).toInt64) v1 hc2) (zgS zw_220 zw_221 zw_5 zw_222) rfl hd_X11_in ⟨rfl, rfl⟩ ⟨Nat.le_of_ble_eq_true rfl, Nat.le_of_ble_eq_true rfl⟩ rfl hl.1 rfl (Nat.le_of_ble_eq_true rfl) dX11_counts_12 hP hD hS hA hK hG (isC := []) rfl (by decide +kernel) rfl ⟨Nat.zero_le _, Nat.zero_le _⟩ (pl := [none, none, none, none, none, none, none, none, none, none]) (nw := 10) rfl (by decide +kernel) (w2 := (ws_X11_counts cI cJ cZ cA q_M q_M_now q_M_refused q_M_held q_M_wait q_M_act q_M_clocks q_M_counts q_M_talking q_M_heap u_M_images u_M_kept u_M_text u_M_size u_M_sign u_M_manyAbove u_M_manyBelow u_M_above u_M_below u_M_at u_M_begin u_M_kind u_M_value u_M_read u_M_most u_M_hasA u_M_hasB u_M_talks u_M_big v_M_acts v_M_waits v_M_place a_M_now a_M_refused a_M_held a_M_wait a_M_act a_M_clocks a_M_counts a_M_talking a_M_heap)) rfl (st1 := [.int v1]) rfl (fun H locs hP hD hS => ?_)
  refine lv_if_eq (tgt := 30) hx hb dX11_counts_15 (by decide) (fun h15 => ?_) (fun h15 => ?_)
  · have hg := zp hg h15
    exact B30 v_M_acts v_M_waits v_M_place a_M_refused a_M_held a_M_wait a_M_act a_M_clocks a_M_counts a_M_talking a_M_heap _ _ _ (lv_sub hl [0] rfl) hP hD hS hg
  · have hg := zn hg h15
    refine lv_iload_n hx hb dX11_counts_18 rfl (lv_at hl 2 rfl) ?_
    refine lv_i2l hx hb dX11_counts_19 rfl ?_
    refine lv_lconst (v := 0) hx hb dX11_counts_20 (by decide) ?_
    refine lv_ldc2 (v := 239) hx hb S.2.2.2.1 (ht _ zw_707) dX11_counts_21 ?_
    obtain ⟨v5, hc6, hg⟩ := zbd hg
    refine zcallS (rest := []) S (c_X11_in l D cI cJ cZ cA ga x2.toInt64 (0 : Int64) (239 : Int64) v5 hc6) (zgS zw_220 zw_221 zw_5 zw_222) rfl hd_X11_in ⟨rfl, rfl⟩ ⟨Nat.le_of_ble_eq_true rfl, Nat.le_of_ble_eq_true rfl⟩ rfl hl.1 rfl (Nat.le_of_ble_eq_true rfl) dX11_counts_24 hP hD hS hA hK hG (isC := []) rfl (by decide +kernel) rfl ⟨Nat.zero_le _, Nat.zero_le _⟩ (pl := [none, none, none, none, none, none, none, none, none, none]) (nw := 10) rfl (by decide +kernel) (w2 := (ws_X11_counts cI cJ cZ cA q_M q_M_now q_M_refused q_M_held q_M_wait q_M_act q_M_clocks q_M_counts q_M_talking q_M_heap u_M_images u_M_kept u_M_text u_M_size u_M_sign u_M_manyAbove u_M_manyBelow u_M_above u_M_below u_M_at u_M_begin u_M_kind u_M_value u_M_read u_M_most u_M_hasA u_M_hasB u_M_talks u_M_big v_M_acts v_M_waits v_M_place a_M_now a_M_refused a_M_held a_M_wait a_M_act a_M_clocks a_M_counts a_M_talking a_M_heap)) rfl (st1 := [.int v5]) rfl (fun H locs hP hD hS => ?_)
    refine lv_if_ne (tgt := 37) hx hb dX11_counts_27 (by decide) (fun h27 => ?_) (fun h27 => ?_)
    · have hg := zn hg h27
      refine lv_aload_n hx hb dX11_counts_37 rfl (lv_at hl 0 rfl) ?_
      refine lv_bipush (v := 31) hx hb dX11_counts_38 (by decide) ?_
      obtain ⟨v7, hc8, hg⟩ := zbd hg
      refine zcallV (rest := []) S (c_X11_winds l D cI cJ cZ cA ga q_M q_M_held q_M_now q_M_wait q_M_act q_M_clocks q_M_counts q_M_talking q_M_heap u_M_images u_M_kept u_M_text u_M_size u_M_sign u_M_manyAbove u_M_manyBelow u_M_above u_M_below (.ref q_M_refused) u_M_at u_M_begin u_M_kind u_M_value u_M_read u_M_most u_M_hasA u_M_hasB u_M_talks u_M_big v_M_acts v_M_waits v_M_place a_M_held a_M_now a_M_wait a_M_act a_M_clocks a_M_counts a_M_talking a_M_heap 31 v7 hc8) (zgV zw_678 zw_679 zw_680 zw_5 zw_681) rfl hd_X11_winds ⟨rfl, rfl⟩ ⟨Nat.le_of_ble_eq_true rfl, Nat.le_of_ble_eq_true rfl⟩ 0 11 rfl rfl rfl hl.1 rfl (Nat.le_of_ble_eq_true rfl) dX11_counts_40 hP hD hS hA hK hG (isC := [0, 3, 1, 4, 5, 6, 7, 8, 9]) rfl (by decide +kernel) rfl ⟨Nat.zero_le _, Nat.zero_le _⟩ (pl := [some 0, some 2, none, some 1, some 3, some 4, some 5, some 6, some 7, some 8]) (nw := 10) rfl (by decide +kernel) (w2 := (ws_X11_counts cI cJ cZ cA q_M q_M_now q_M_refused q_M_held q_M_wait q_M_act q_M_clocks q_M_counts q_M_talking q_M_heap u_M_images u_M_kept u_M_text u_M_size u_M_sign u_M_manyAbove u_M_manyBelow u_M_above u_M_below u_M_at u_M_begin u_M_kind u_M_value u_M_read u_M_most u_M_hasA u_M_hasB u_M_talks u_M_big v7.1 v7.2.1 v7.2.2.1 a_M_now a_M_refused v7.2.2.2.1 v7.2.2.2.2.1 v7.2.2.2.2.2.1 v7.2.2.2.2.2.2.1 v7.2.2.2.2.2.2.2.1 v7.2.2.2.2.2.2.2.2.1 v7.2.2.2.2.2.2.2.2.2)) rfl (st1 := []) rfl (fun H locs hP hD hS => ?_)
      refine lv_aload_n hx hb dX11_counts_43 rfl (lv_at hl 0 rfl) ?_
      refine zget (C := RX11) (T := TX11) (N := 31) S hK hP 0 rfl rfl 24 (Nat.le_of_ble_eq_true rfl) zf_11 zw_163 rfl dX11_counts_44 ?_
      refine lv_sipush (v := 240) hx hb dX11_counts_47 (by decide) ?_
      refine lv_iload_n hx hb dX11_counts_50 rfl (lv_at hl 1 rfl) ?_
      refine lv_imul hx hb dX11_counts_51 ?_
      refine lv_iload_n hx hb dX11_counts_52 rfl (lv_at hl 2 rfl) ?_
      refine lv_iadd hx hb dX11_counts_53 ?_
      obtain ⟨h9, hg⟩ := zck hg
      refine ziald hx hb hK hP 7 0 rfl rfl (j := (((240 * x1) + x2).toNatClampNeg)) h9 rfl dX11_counts_54 ?_
      exact hret (v7.2.2.2.2.2.2.2.1 (((240 * x1) + x2).toNatClampNeg)) v7.1 v7.2.1 v7.2.2.1 a_M_refused v7.2.2.2.1 v7.2.2.2.2.1 v7.2.2.2.2.2.1 v7.2.2.2.2.2.2.1 v7.2.2.2.2.2.2.2.1 v7.2.2.2.2.2.2.2.2.1 v7.2.2.2.2.2.2.2.2.2 hg _ _ _ _ hP hS dX11_counts_55
    · have hg := zp hg h27
      exact B30 v_M_acts v_M_waits v_M_place a_M_refused a_M_held a_M_wait a_M_act a_M_clocks a_M_counts a_M_talking a_M_heap _ _ _ (lv_sub hl [0] rfl) hP hD hS hg

/-! SpokenClockModel.first(II)I -/
abbrev ws_X11_first (cI cJ cZ cA : ClassId) (q_M q_M_clocks : Nat) (u_M_now : Value) (u_M_images : Value) (u_M_kept : Value) (u_M_text : Value) (u_M_size : Value) (u_M_sign : Value) (u_M_manyAbove : Value) (u_M_manyBelow : Value) (u_M_above : Value) (u_M_below : Value) (u_M_refused : Value) (u_M_at : Value) (u_M_begin : Value) (u_M_kind : Value) (u_M_value : Value) (u_M_read : Value) (u_M_acts : Value) (u_M_act : Value) (u_M_waits : Value) (u_M_wait : Value) (u_M_held : Value) (u_M_place : Value) (u_M_heap : Value) (u_M_counts : Value) (u_M_talking : Value) (u_M_most : Value) (u_M_hasA : Value) (u_M_hasB : Value) (u_M_talks : Value) (u_M_big : Value) (a_M_clocks : Nat → Int32) : va_W := [(q_M, .inr (11, [u_M_now, u_M_images, u_M_kept, u_M_text, u_M_size, u_M_sign, u_M_manyAbove, u_M_manyBelow, u_M_above, u_M_below, u_M_refused, u_M_at, u_M_begin, u_M_kind, u_M_value, u_M_read, u_M_acts, u_M_act, u_M_waits, u_M_wait, u_M_held, u_M_place, u_M_heap, .ref q_M_clocks, u_M_counts, u_M_talking, u_M_most, u_M_hasA, u_M_hasB, u_M_talks, u_M_big])), (q_M_clocks, .inl (cI, 482, .inl a_M_clocks))]
abbrev rm_X11_first : Room := { frames := 0, cells := 0, slots := 0, locals := 0 }
def g_X11_first_2b (a_M_clocks : Nat → Int32) (x1 : Int32) (x2 : Int32) (k2 : Int32 → Option (Int32)) (x3 : Int32) : Option (Int32) :=
  if 240 < x3 then (
    some ((-1))
  ) else (
    if ((241 * x1) + x3) < 0 ∨ 482 ≤ ((241 * x1) + x3).toNatClampNeg then none else
    if (a_M_clocks (((241 * x1) + x3).toNatClampNeg)) < x2 then (
      k2 (x3 + 1)
    ) else (
      some (x3)
    )
  )
def g_X11_first_2 (a_M_clocks : Nat → Int32) (x1 : Int32) (x2 : Int32) : Nat → Int32 → Option (Int32)
  | 0, _ => none
  | n + 1, x3 => g_X11_first_2b a_M_clocks x1 x2 (g_X11_first_2 a_M_clocks x1 x2 n) x3
def g_X11_first (a_M_clocks : Nat → Int32) (x1 : Int32) (x2 : Int32) : Option (Int32) :=
  g_X11_first_2 a_M_clocks x1 x2 zF 0
theorem hd_X11_first : yX11_first.cls = RX11 ∧ yX11_first.cls ≠ "java/lang/invoke/MethodHandle" ∧ yX11_first.cls ≠ "java/lang/invoke/VarHandle" ∧ (parseMethodDescriptor yX11_first.desc).map (fun d => d.parameters.length) = some 2 := by decide +kernel
set_option maxHeartbeats 4000000 in
set_option maxRecDepth 100000 in
theorem c_X11_first (l : Launch) (D : va_G) (cI cJ cZ cA : ClassId) (ga : Nat → Nat) (q_M q_M_clocks : Nat) (u_M_now : Value) (u_M_images : Value) (u_M_kept : Value) (u_M_text : Value) (u_M_size : Value) (u_M_sign : Value) (u_M_manyAbove : Value) (u_M_manyBelow : Value) (u_M_above : Value) (u_M_below : Value) (u_M_refused : Value) (u_M_at : Value) (u_M_begin : Value) (u_M_kind : Value) (u_M_value : Value) (u_M_read : Value) (u_M_acts : Value) (u_M_act : Value) (u_M_waits : Value) (u_M_wait : Value) (u_M_held : Value) (u_M_place : Value) (u_M_heap : Value) (u_M_counts : Value) (u_M_talking : Value) (u_M_most : Value) (u_M_hasA : Value) (u_M_hasB : Value) (u_M_talks : Value) (u_M_big : Value) (a_M_clocks : Nat → Int32) (x1 : Int32) (x2 : Int32) (o : Int32) (hg : g_X11_first a_M_clocks x1 x2 = some o) : zM l yX11_first (Cond.code yX11_first cX11_first 4 (some .int) :: wsL_law) rm_X11_first D (zTy cI cJ cZ cA) ga [.ref q_M, .int x1, .int x2] (ws_X11_first cI cJ cZ cA q_M q_M_clocks u_M_now u_M_images u_M_kept u_M_text u_M_size u_M_sign u_M_manyAbove u_M_manyBelow u_M_above u_M_below u_M_refused u_M_at u_M_begin u_M_kind u_M_value u_M_read u_M_acts u_M_act u_M_waits u_M_wait u_M_held u_M_place u_M_heap u_M_counts u_M_talking u_M_most u_M_hasA u_M_hasB u_M_talks u_M_big a_M_clocks) (ws_X11_first cI cJ cZ cA q_M q_M_clocks u_M_now u_M_images u_M_kept u_M_text u_M_size u_M_sign u_M_manyAbove u_M_manyBelow u_M_above u_M_below u_M_refused u_M_at u_M_begin u_M_kind u_M_value u_M_read u_M_acts u_M_act u_M_waits u_M_wait u_M_held u_M_place u_M_heap u_M_counts u_M_talking u_M_most u_M_hasA u_M_hasB u_M_talks u_M_big a_M_clocks) (some (.int o)) := by
  refine zenterI (own := RX11) (by decide) rfl rfl (Nat.le_of_ble_eq_true rfl) ?_
  intro p e s m args below meth c A ls Q S hA hK hG hl hP hD hS hret0
  have hx := S.1
  have hb := S.2.1
  have ht : ∀ w, w ∈ wsL_law → w.before args s = true := fun w h => S.2.2.2.2 w (List.mem_cons_of_mem _ h)
  have hret : ∀ (r9 : Int32), (some (r9) : Option (Int32)) = some o → ∀ (H : Heap) (locs : List Loc) (pc : Nat) (ls : Array Slot), va_P D vwCl (ws_X11_first cI cJ cZ cA q_M q_M_clocks u_M_now u_M_images u_M_kept u_M_text u_M_size u_M_sign u_M_manyAbove u_M_manyBelow u_M_above u_M_below u_M_refused u_M_at u_M_begin u_M_kind u_M_value u_M_read u_M_acts u_M_act u_M_waits u_M_wait u_M_held u_M_place u_M_heap u_M_counts u_M_talking u_M_most u_M_hasA u_M_hasB u_M_talks u_M_big a_M_clocks) H → va_S A s.heap H locs → decode cX11_first pc = .ok (.ireturn, 1) → W p l e rm_X11_first s m args below meth c H locs 0 0 Q (F0 m pc ls [.int r9]) := by
    intro r9 he; cases he; exact hret0
  have hl : lv_has ls 4 [(0, .ref q_M), (1, .int x1), (2, .int x2)] := hl
  have B2 : ∀  (n : Nat) (x3 : Int32) (H : Heap) (locs : List Loc) (ls : Array Slot) (hl : lv_has ls 4 [(0, .ref q_M), (1, .int x1), (2, .int x2), (3, .int x3)]) (hP : va_P D vwCl (ws_X11_first cI cJ cZ cA q_M q_M_clocks u_M_now u_M_images u_M_kept u_M_text u_M_size u_M_sign u_M_manyAbove u_M_manyBelow u_M_above u_M_below u_M_refused u_M_at u_M_begin u_M_kind u_M_value u_M_read u_M_acts u_M_act u_M_waits u_M_wait u_M_held u_M_place u_M_heap u_M_counts u_M_talking u_M_most u_M_hasA u_M_hasB u_M_talks u_M_big a_M_clocks) H) (hD : va_D A (ws_X11_first cI cJ cZ cA q_M q_M_clocks u_M_now u_M_images u_M_kept u_M_text u_M_size u_M_sign u_M_manyAbove u_M_manyBelow u_M_above u_M_below u_M_refused u_M_at u_M_begin u_M_kind u_M_value u_M_read u_M_acts u_M_act u_M_waits u_M_wait u_M_held u_M_place u_M_heap u_M_counts u_M_talking u_M_most u_M_hasA u_M_hasB u_M_talks u_M_big a_M_clocks)) (hS : va_S A s.heap H locs), g_X11_first_2 a_M_clocks x1 x2 n x3 = some o → W p l e rm_X11_first s m args below meth c H locs 0 0 Q (F0 m 2 ls []) := by
    intro  n
    induction n with
    | zero => intro x3 H locs ls hl hP hD hS hg; exact nomatch (show (none : Option (Int32)) = some o from hg)
    | succ n ih =>
      intro x3 H locs ls hl hP hD hS hg
      have hg : g_X11_first_2b a_M_clocks x1 x2 (g_X11_first_2 a_M_clocks x1 x2 n) x3 = some o := hg
      refine lv_iload_n hx hb dX11_first_2 rfl (lv_at hl 3 rfl) ?_
      refine lv_sipush (v := 240) hx hb dX11_first_3 (by decide) ?_
      refine lv_icmp_gt (tgt := 33) hx hb dX11_first_6 (by decide) (fun h6 => ?_) (fun h6 => ?_)
      · have hg := zp hg h6
        refine lv_iconst (v := (-1)) hx hb dX11_first_33 (by decide) ?_
        exact hret (-1) hg _ _ _ _ hP hS dX11_first_34
      · have hg := zn hg h6
        refine lv_aload_n hx hb dX11_first_9 rfl (lv_at hl 0 rfl) ?_
        refine zget (C := RX11) (T := TX11) (N := 31) S hK hP 0 rfl rfl 23 (Nat.le_of_ble_eq_true rfl) zf_11 zw_162 rfl dX11_first_10 ?_
        refine lv_sipush (v := 241) hx hb dX11_first_13 (by decide) ?_
        refine lv_iload_n hx hb dX11_first_16 rfl (lv_at hl 1 rfl) ?_
        refine lv_imul hx hb dX11_first_17 ?_
        refine lv_iload_n hx hb dX11_first_18 rfl (lv_at hl 3 rfl) ?_
        refine lv_iadd hx hb dX11_first_19 ?_
        obtain ⟨h1, hg⟩ := zck hg
        refine ziald hx hb hK hP 1 0 rfl rfl (j := (((241 * x1) + x3).toNatClampNeg)) h1 rfl dX11_first_20 ?_
        refine lv_iload_n hx hb dX11_first_21 rfl (lv_at hl 2 rfl) ?_
        refine lv_icmp_lt (tgt := 27) hx hb dX11_first_22 (by decide) (fun h22 => ?_) (fun h22 => ?_)
        · have hg := zp hg h22
          refine lv_iinc (k := 3) (v := x3 + 1) (lv' := [(3, .int (x3 + 1)), (0, .ref q_M), (1, .int x1), (2, .int x2)]) hx hb dX11_first_27 hl rfl (zinc (by decide)) (by decide) rfl (fun ls hl => ?_)
          refine lv_goto (tgt := 2) hx hb dX11_first_30 (by decide) ?_
          exact ih (x3 + 1) _ _ _ (lv_sub hl [1, 2, 3, 0] rfl) hP hD hS hg
        · have hg := zn hg h22
          refine lv_iload_n hx hb dX11_first_25 rfl (lv_at hl 3 rfl) ?_
          exact hret x3 hg _ _ _ _ hP hS dX11_first_26
  refine lv_iconst (v := 0) hx hb dX11_first_0 (by decide) ?_
  refine lv_istore_n (lv' := [(3, .int 0), (0, .ref q_M), (1, .int x1), (2, .int x2)]) hx hb dX11_first_1 rfl hl (by decide) rfl (fun ls hl => ?_)
  exact B2 zF 0 _ _ _ (lv_sub hl [1, 2, 3, 0] rfl) hP hD hS hg

