/-! SpokenClockModel.who(I)I -/
abbrev ws_X11_who (cI cJ cZ cA : ClassId) (q_M q_M_now q_M_held q_M_wait q_M_act q_M_clocks q_M_counts q_M_talking q_M_heap q_M_refused : Nat) (u_M_images : Value) (u_M_kept : Value) (u_M_text : Value) (u_M_size : Value) (u_M_sign : Value) (u_M_manyAbove : Value) (u_M_manyBelow : Value) (u_M_above : Value) (u_M_below : Value) (u_M_at : Value) (u_M_begin : Value) (u_M_kind : Value) (u_M_value : Value) (u_M_read : Value) (u_M_most : Value) (u_M_hasA : Value) (u_M_hasB : Value) (u_M_talks : Value) (u_M_big : Value) (v_M_acts : Int32) (v_M_waits : Int32) (v_M_place : Int32) (a_M_now : Nat → Int32) (a_M_held : Nat → Int32) (a_M_wait : Nat → Int32) (a_M_act : Nat → Int32) (a_M_clocks : Nat → Int32) (a_M_counts : Nat → Int32) (a_M_talking : Nat → Int32) (a_M_heap : Nat → Int64) (a_M_refused : Nat → Int32) : va_W := [(q_M, .inr (11, [.ref q_M_now, u_M_images, u_M_kept, u_M_text, u_M_size, u_M_sign, u_M_manyAbove, u_M_manyBelow, u_M_above, u_M_below, .ref q_M_refused, u_M_at, u_M_begin, u_M_kind, u_M_value, u_M_read, .int v_M_acts, .ref q_M_act, .int v_M_waits, .ref q_M_wait, .ref q_M_held, .int v_M_place, .ref q_M_heap, .ref q_M_clocks, .ref q_M_counts, .ref q_M_talking, u_M_most, u_M_hasA, u_M_hasB, u_M_talks, u_M_big])), (q_M_now, .inl (cI, 155, .inl a_M_now)), (q_M_held, .inl (cZ, 9, .inl a_M_held)), (q_M_wait, .inl (cI, 80, .inl a_M_wait)), (q_M_act, .inl (cI, 80, .inl a_M_act)), (q_M_clocks, .inl (cI, 482, .inl a_M_clocks)), (q_M_counts, .inl (cI, 1200, .inl a_M_counts)), (q_M_talking, .inl (cZ, 1200, .inl a_M_talking)), (q_M_heap, .inl (cJ, 41, .inr (.inl a_M_heap))), (q_M_refused, .inl (cI, 3, .inl a_M_refused))]
abbrev rm_X11_who : Room := { frames := 5, cells := 0, slots := 0, locals := 120 }
def g_X11_who_191 (a_M_now : Nat → Int32) (x1 : Int32) (k72 : Int32 → Int32 → Int32 → Int32 → Int32 → Int32 → Int32 → Int32 → (Nat → Int32) → (Nat → Int32) → (Nat → Int32) → (Nat → Int32) → (Nat → Int32) → (Nat → Int32) → (Nat → Int64) → (Nat → Int32) → Option (Int32 × Int32 × Int32 × Int32 × (Nat → Int32) × (Nat → Int32) × (Nat → Int32) × (Nat → Int32) × (Nat → Int32) × (Nat → Int32) × (Nat → Int64) × (Nat → Int32))) (x2 : Int32) (x3 : Int32) (x4 : Int32) (x5 : Int32) (x6 : Int32) (v_M_acts : Int32) (v_M_waits : Int32) (v_M_place : Int32) (a_M_held : Nat → Int32) (a_M_wait : Nat → Int32) (a_M_act : Nat → Int32) (a_M_clocks : Nat → Int32) (a_M_counts : Nat → Int32) (a_M_talking : Nat → Int32) (a_M_heap : Nat → Int64) (a_M_refused : Nat → Int32) : Option (Int32 × Int32 × Int32 × Int32 × (Nat → Int32) × (Nat → Int32) × (Nat → Int32) × (Nat → Int32) × (Nat → Int32) × (Nat → Int32) × (Nat → Int64) × (Nat → Int32)) :=
  k72 x2 x3 x4 x5 (x6 + 1) v_M_acts v_M_waits v_M_place a_M_held a_M_wait a_M_act a_M_clocks a_M_counts a_M_talking a_M_heap a_M_refused
def g_X11_who_182 (a_M_now : Nat → Int32) (x1 : Int32) (k72 : Int32 → Int32 → Int32 → Int32 → Int32 → Int32 → Int32 → Int32 → (Nat → Int32) → (Nat → Int32) → (Nat → Int32) → (Nat → Int32) → (Nat → Int32) → (Nat → Int32) → (Nat → Int64) → (Nat → Int32) → Option (Int32 × Int32 × Int32 × Int32 × (Nat → Int32) × (Nat → Int32) × (Nat → Int32) × (Nat → Int32) × (Nat → Int32) × (Nat → Int32) × (Nat → Int64) × (Nat → Int32))) (x2 : Int32) (x3 : Int32) (x5 : Int32) (x6 : Int32) (t0 : Int32) (v_M_acts : Int32) (v_M_waits : Int32) (v_M_place : Int32) (a_M_held : Nat → Int32) (a_M_wait : Nat → Int32) (a_M_act : Nat → Int32) (a_M_clocks : Nat → Int32) (a_M_counts : Nat → Int32) (a_M_talking : Nat → Int32) (a_M_heap : Nat → Int64) (a_M_refused : Nat → Int32) : Option (Int32 × Int32 × Int32 × Int32 × (Nat → Int32) × (Nat → Int32) × (Nat → Int32) × (Nat → Int32) × (Nat → Int32) × (Nat → Int32) × (Nat → Int64) × (Nat → Int32)) :=
  g_X11_who_191 a_M_now x1 k72 x2 x3 t0 (x5 &&& x6) x6 v_M_acts v_M_waits v_M_place a_M_held a_M_wait a_M_act a_M_clocks a_M_counts a_M_talking a_M_heap a_M_refused
def g_X11_who_153 (a_M_now : Nat → Int32) (x1 : Int32) (k72 : Int32 → Int32 → Int32 → Int32 → Int32 → Int32 → Int32 → Int32 → (Nat → Int32) → (Nat → Int32) → (Nat → Int32) → (Nat → Int32) → (Nat → Int32) → (Nat → Int32) → (Nat → Int64) → (Nat → Int32) → Option (Int32 × Int32 × Int32 × Int32 × (Nat → Int32) × (Nat → Int32) × (Nat → Int32) × (Nat → Int32) × (Nat → Int32) × (Nat → Int32) × (Nat → Int64) × (Nat → Int32))) (k103 : Int32 → Int32 → Int32 → Int32 → Int32 → Int32 → Int32 → Int32 → Int32 → Int32 → (Nat → Int32) → (Nat → Int32) → (Nat → Int32) → (Nat → Int32) → (Nat → Int32) → (Nat → Int32) → (Nat → Int64) → (Nat → Int32) → Option (Int32 × Int32 × Int32 × Int32 × (Nat → Int32) × (Nat → Int32) × (Nat → Int32) × (Nat → Int32) × (Nat → Int32) × (Nat → Int32) × (Nat → Int64) × (Nat → Int32))) (x2 : Int32) (x3 : Int32) (x4 : Int32) (x5 : Int32) (x6 : Int32) (x8 : Int32) (t0 : Int32) (v_M_acts : Int32) (v_M_waits : Int32) (v_M_place : Int32) (a_M_held : Nat → Int32) (a_M_wait : Nat → Int32) (a_M_act : Nat → Int32) (a_M_clocks : Nat → Int32) (a_M_counts : Nat → Int32) (a_M_talking : Nat → Int32) (a_M_heap : Nat → Int64) (a_M_refused : Nat → Int32) : Option (Int32 × Int32 × Int32 × Int32 × (Nat → Int32) × (Nat → Int32) × (Nat → Int32) × (Nat → Int32) × (Nat → Int32) × (Nat → Int32) × (Nat → Int64) × (Nat → Int32)) :=
  k103 x2 x3 x4 x5 x6 t0 (x8 + 1) v_M_acts v_M_waits v_M_place a_M_held a_M_wait a_M_act a_M_clocks a_M_counts a_M_talking a_M_heap a_M_refused
def g_X11_who_152 (a_M_now : Nat → Int32) (x1 : Int32) (k72 : Int32 → Int32 → Int32 → Int32 → Int32 → Int32 → Int32 → Int32 → (Nat → Int32) → (Nat → Int32) → (Nat → Int32) → (Nat → Int32) → (Nat → Int32) → (Nat → Int32) → (Nat → Int64) → (Nat → Int32) → Option (Int32 × Int32 × Int32 × Int32 × (Nat → Int32) × (Nat → Int32) × (Nat → Int32) × (Nat → Int32) × (Nat → Int32) × (Nat → Int32) × (Nat → Int64) × (Nat → Int32))) (k103 : Int32 → Int32 → Int32 → Int32 → Int32 → Int32 → Int32 → Int32 → Int32 → Int32 → (Nat → Int32) → (Nat → Int32) → (Nat → Int32) → (Nat → Int32) → (Nat → Int32) → (Nat → Int32) → (Nat → Int64) → (Nat → Int32) → Option (Int32 × Int32 × Int32 × Int32 × (Nat → Int32) × (Nat → Int32) × (Nat → Int32) × (Nat → Int32) × (Nat → Int32) × (Nat → Int32) × (Nat → Int64) × (Nat → Int32))) (x2 : Int32) (x3 : Int32) (x4 : Int32) (x5 : Int32) (x6 : Int32) (x8 : Int32) (v_M_acts : Int32) (v_M_waits : Int32) (v_M_place : Int32) (a_M_held : Nat → Int32) (a_M_wait : Nat → Int32) (a_M_act : Nat → Int32) (a_M_clocks : Nat → Int32) (a_M_counts : Nat → Int32) (a_M_talking : Nat → Int32) (a_M_heap : Nat → Int64) (a_M_refused : Nat → Int32) : Option (Int32 × Int32 × Int32 × Int32 × (Nat → Int32) × (Nat → Int32) × (Nat → Int32) × (Nat → Int32) × (Nat → Int32) × (Nat → Int32) × (Nat → Int64) × (Nat → Int32)) :=
  g_X11_who_153 a_M_now x1 k72 k103 x2 x3 x4 x5 x6 x8 0 v_M_acts v_M_waits v_M_place a_M_held a_M_wait a_M_act a_M_clocks a_M_counts a_M_talking a_M_heap a_M_refused
def g_X11_who_103b (a_M_now : Nat → Int32) (x1 : Int32) (k72 : Int32 → Int32 → Int32 → Int32 → Int32 → Int32 → Int32 → Int32 → (Nat → Int32) → (Nat → Int32) → (Nat → Int32) → (Nat → Int32) → (Nat → Int32) → (Nat → Int32) → (Nat → Int64) → (Nat → Int32) → Option (Int32 × Int32 × Int32 × Int32 × (Nat → Int32) × (Nat → Int32) × (Nat → Int32) × (Nat → Int32) × (Nat → Int32) × (Nat → Int32) × (Nat → Int64) × (Nat → Int32))) (k103 : Int32 → Int32 → Int32 → Int32 → Int32 → Int32 → Int32 → Int32 → Int32 → Int32 → (Nat → Int32) → (Nat → Int32) → (Nat → Int32) → (Nat → Int32) → (Nat → Int32) → (Nat → Int32) → (Nat → Int64) → (Nat → Int32) → Option (Int32 × Int32 × Int32 × Int32 × (Nat → Int32) × (Nat → Int32) × (Nat → Int32) × (Nat → Int32) × (Nat → Int32) × (Nat → Int32) × (Nat → Int64) × (Nat → Int32))) (x2 : Int32) (x3 : Int32) (x4 : Int32) (x5 : Int32) (x6 : Int32) (x7 : Int32) (x8 : Int32) (v_M_acts : Int32) (v_M_waits : Int32) (v_M_place : Int32) (a_M_held : Nat → Int32) (a_M_wait : Nat → Int32) (a_M_act : Nat → Int32) (a_M_clocks : Nat → Int32) (a_M_counts : Nat → Int32) (a_M_talking : Nat → Int32) (a_M_heap : Nat → Int64) (a_M_refused : Nat → Int32) : Option (Int32 × Int32 × Int32 × Int32 × (Nat → Int32) × (Nat → Int32) × (Nat → Int32) × (Nat → Int32) × (Nat → Int32) × (Nat → Int32) × (Nat → Int64) × (Nat → Int32)) :=
  if (a_M_now 6) ≤ x8 then (
    if x7 = 0 then (
      g_X11_who_191 a_M_now x1 k72 x2 x3 x4 x5 x6 v_M_acts v_M_waits v_M_place a_M_held a_M_wait a_M_act a_M_clocks a_M_counts a_M_talking a_M_heap a_M_refused
    ) else (
      if x4 = (-1) then (
        g_X11_who_182 a_M_now x1 k72 x2 (x3 + 1) x5 x6 x6 v_M_acts v_M_waits v_M_place a_M_held a_M_wait a_M_act a_M_clocks a_M_counts a_M_talking a_M_heap a_M_refused
      ) else (
        g_X11_who_182 a_M_now x1 k72 x2 (x3 + 1) x5 x6 x4 v_M_acts v_M_waits v_M_place a_M_held a_M_wait a_M_act a_M_clocks a_M_counts a_M_talking a_M_heap a_M_refused
      )
    )
  ) else (
    if x7 = 0 then (
      g_X11_who_152 a_M_now x1 k72 k103 x2 x3 x4 x5 x6 x8 v_M_acts v_M_waits v_M_place a_M_held a_M_wait a_M_act a_M_clocks a_M_counts a_M_talking a_M_heap a_M_refused
    ) else (
      if (95 + x8) < 0 ∨ 155 ≤ (95 + x8).toNatClampNeg then none else
      if (a_M_now ((95 + x8).toNatClampNeg)) < 0 ∨ 482 ≤ (a_M_now ((95 + x8).toNatClampNeg)).toNatClampNeg then none else
      if (105 + x8) < 0 ∨ 155 ≤ (105 + x8).toNatClampNeg then none else
      if (a_M_clocks ((a_M_now ((95 + x8).toNatClampNeg)).toNatClampNeg)) = (a_M_now ((105 + x8).toNatClampNeg)) then (
        g_X11_who_153 a_M_now x1 k72 k103 x2 x3 x4 x5 x6 x8 1 v_M_acts v_M_waits v_M_place a_M_held a_M_wait a_M_act a_M_clocks a_M_counts a_M_talking a_M_heap a_M_refused
      ) else (
        g_X11_who_152 a_M_now x1 k72 k103 x2 x3 x4 x5 x6 x8 v_M_acts v_M_waits v_M_place a_M_held a_M_wait a_M_act a_M_clocks a_M_counts a_M_talking a_M_heap a_M_refused
      )
    )
  )
def g_X11_who_103 (a_M_now : Nat → Int32) (x1 : Int32) (k72 : Int32 → Int32 → Int32 → Int32 → Int32 → Int32 → Int32 → Int32 → (Nat → Int32) → (Nat → Int32) → (Nat → Int32) → (Nat → Int32) → (Nat → Int32) → (Nat → Int32) → (Nat → Int64) → (Nat → Int32) → Option (Int32 × Int32 × Int32 × Int32 × (Nat → Int32) × (Nat → Int32) × (Nat → Int32) × (Nat → Int32) × (Nat → Int32) × (Nat → Int32) × (Nat → Int64) × (Nat → Int32))) : Nat → Int32 → Int32 → Int32 → Int32 → Int32 → Int32 → Int32 → Int32 → Int32 → Int32 → (Nat → Int32) → (Nat → Int32) → (Nat → Int32) → (Nat → Int32) → (Nat → Int32) → (Nat → Int32) → (Nat → Int64) → (Nat → Int32) → Option (Int32 × Int32 × Int32 × Int32 × (Nat → Int32) × (Nat → Int32) × (Nat → Int32) × (Nat → Int32) × (Nat → Int32) × (Nat → Int32) × (Nat → Int64) × (Nat → Int32))
  | 0, _, _, _, _, _, _, _, _, _, _, _, _, _, _, _, _, _, _ => none
  | n + 1, x2, x3, x4, x5, x6, x7, x8, v_M_acts, v_M_waits, v_M_place, a_M_held, a_M_wait, a_M_act, a_M_clocks, a_M_counts, a_M_talking, a_M_heap, a_M_refused => g_X11_who_103b a_M_now x1 k72 (g_X11_who_103 a_M_now x1 k72 n) x2 x3 x4 x5 x6 x7 x8 v_M_acts v_M_waits v_M_place a_M_held a_M_wait a_M_act a_M_clocks a_M_counts a_M_talking a_M_heap a_M_refused
def g_X11_who_72b (a_M_now : Nat → Int32) (x1 : Int32) (k72 : Int32 → Int32 → Int32 → Int32 → Int32 → Int32 → Int32 → Int32 → (Nat → Int32) → (Nat → Int32) → (Nat → Int32) → (Nat → Int32) → (Nat → Int32) → (Nat → Int32) → (Nat → Int64) → (Nat → Int32) → Option (Int32 × Int32 × Int32 × Int32 × (Nat → Int32) × (Nat → Int32) × (Nat → Int32) × (Nat → Int32) × (Nat → Int32) × (Nat → Int32) × (Nat → Int64) × (Nat → Int32))) (x2 : Int32) (x3 : Int32) (x4 : Int32) (x5 : Int32) (x6 : Int32) (v_M_acts : Int32) (v_M_waits : Int32) (v_M_place : Int32) (a_M_held : Nat → Int32) (a_M_wait : Nat → Int32) (a_M_act : Nat → Int32) (a_M_clocks : Nat → Int32) (a_M_counts : Nat → Int32) (a_M_talking : Nat → Int32) (a_M_heap : Nat → Int64) (a_M_refused : Nat → Int32) : Option (Int32 × Int32 × Int32 × Int32 × (Nat → Int32) × (Nat → Int32) × (Nat → Int32) × (Nat → Int32) × (Nat → Int32) × (Nat → Int32) × (Nat → Int64) × (Nat → Int32)) :=
  if 32 ≤ x6 then (
    if x1 = 0 then (
      some (x3, v_M_acts, v_M_waits, v_M_place, a_M_held, a_M_wait, a_M_act, a_M_clocks, a_M_counts, a_M_talking, a_M_heap, a_M_refused)
    ) else (
      if x3 = 0 then (
        some ((-1), v_M_acts, v_M_waits, v_M_place, a_M_held, a_M_wait, a_M_act, a_M_clocks, a_M_counts, a_M_talking, a_M_heap, a_M_refused)
      ) else (
        if x1 = 1 then (
          some (x4, v_M_acts, v_M_waits, v_M_place, a_M_held, a_M_wait, a_M_act, a_M_clocks, a_M_counts, a_M_talking, a_M_heap, a_M_refused)
        ) else (
          some (x5, v_M_acts, v_M_waits, v_M_place, a_M_held, a_M_wait, a_M_act, a_M_clocks, a_M_counts, a_M_talking, a_M_heap, a_M_refused)
        )
      )
    )
  ) else (
    if (x6 &&& (x2 ^^^ (-1))) = 0 then (
      (g_X11_winds a_M_now x6 v_M_acts v_M_waits v_M_place a_M_held a_M_wait a_M_act a_M_clocks a_M_counts a_M_talking a_M_heap).bind fun v3 =>
      g_X11_who_103 a_M_now x1 k72 zF x2 x3 x4 x5 x6 1 0 v3.1 v3.2.1 v3.2.2.1 v3.2.2.2.1 v3.2.2.2.2.1 v3.2.2.2.2.2.1 v3.2.2.2.2.2.2.1 v3.2.2.2.2.2.2.2.1 v3.2.2.2.2.2.2.2.2.1 v3.2.2.2.2.2.2.2.2.2 a_M_refused
    ) else (
      g_X11_who_191 a_M_now x1 k72 x2 x3 x4 x5 x6 v_M_acts v_M_waits v_M_place a_M_held a_M_wait a_M_act a_M_clocks a_M_counts a_M_talking a_M_heap a_M_refused
    )
  )
def g_X11_who_72 (a_M_now : Nat → Int32) (x1 : Int32) : Nat → Int32 → Int32 → Int32 → Int32 → Int32 → Int32 → Int32 → Int32 → (Nat → Int32) → (Nat → Int32) → (Nat → Int32) → (Nat → Int32) → (Nat → Int32) → (Nat → Int32) → (Nat → Int64) → (Nat → Int32) → Option (Int32 × Int32 × Int32 × Int32 × (Nat → Int32) × (Nat → Int32) × (Nat → Int32) × (Nat → Int32) × (Nat → Int32) × (Nat → Int32) × (Nat → Int64) × (Nat → Int32))
  | 0, _, _, _, _, _, _, _, _, _, _, _, _, _, _, _, _ => none
  | n + 1, x2, x3, x4, x5, x6, v_M_acts, v_M_waits, v_M_place, a_M_held, a_M_wait, a_M_act, a_M_clocks, a_M_counts, a_M_talking, a_M_heap, a_M_refused => g_X11_who_72b a_M_now x1 (g_X11_who_72 a_M_now x1 n) x2 x3 x4 x5 x6 v_M_acts v_M_waits v_M_place a_M_held a_M_wait a_M_act a_M_clocks a_M_counts a_M_talking a_M_heap a_M_refused
def g_X11_who_53 (a_M_now : Nat → Int32) (x1 : Int32) (k23 : Int32 → Int32 → Int32 → Int32 → Int32 → (Nat → Int32) → (Nat → Int32) → (Nat → Int32) → (Nat → Int32) → (Nat → Int32) → (Nat → Int32) → (Nat → Int64) → (Nat → Int32) → Option (Int32 × Int32 × Int32 × Int32 × (Nat → Int32) × (Nat → Int32) × (Nat → Int32) × (Nat → Int32) × (Nat → Int32) × (Nat → Int32) × (Nat → Int64) × (Nat → Int32))) (x3 : Int32) (t0 : Int32) (t1 : Int32) (v_M_acts : Int32) (v_M_waits : Int32) (v_M_place : Int32) (a_M_held : Nat → Int32) (a_M_wait : Nat → Int32) (a_M_act : Nat → Int32) (a_M_clocks : Nat → Int32) (a_M_counts : Nat → Int32) (a_M_talking : Nat → Int32) (a_M_heap : Nat → Int64) (a_M_refused : Nat → Int32) : Option (Int32 × Int32 × Int32 × Int32 × (Nat → Int32) × (Nat → Int32) × (Nat → Int32) × (Nat → Int32) × (Nat → Int32) × (Nat → Int32) × (Nat → Int64) × (Nat → Int32)) :=
  k23 (t0 ||| t1) (x3 + 1) v_M_acts v_M_waits v_M_place a_M_held a_M_wait a_M_act a_M_clocks a_M_counts a_M_talking a_M_heap a_M_refused
def g_X11_who_23b (a_M_now : Nat → Int32) (x1 : Int32) (k23 : Int32 → Int32 → Int32 → Int32 → Int32 → (Nat → Int32) → (Nat → Int32) → (Nat → Int32) → (Nat → Int32) → (Nat → Int32) → (Nat → Int32) → (Nat → Int64) → (Nat → Int32) → Option (Int32 × Int32 × Int32 × Int32 × (Nat → Int32) × (Nat → Int32) × (Nat → Int32) × (Nat → Int32) × (Nat → Int32) × (Nat → Int32) × (Nat → Int64) × (Nat → Int32))) (x2 : Int32) (x3 : Int32) (v_M_acts : Int32) (v_M_waits : Int32) (v_M_place : Int32) (a_M_held : Nat → Int32) (a_M_wait : Nat → Int32) (a_M_act : Nat → Int32) (a_M_clocks : Nat → Int32) (a_M_counts : Nat → Int32) (a_M_talking : Nat → Int32) (a_M_heap : Nat → Int64) (a_M_refused : Nat → Int32) : Option (Int32 × Int32 × Int32 × Int32 × (Nat → Int32) × (Nat → Int32) × (Nat → Int32) × (Nat → Int32) × (Nat → Int32) × (Nat → Int32) × (Nat → Int64) × (Nat → Int32)) :=
  if (a_M_now 3) ≤ x3 then (
    g_X11_who_72 a_M_now x1 zF x2 0 (-1) x2 0 v_M_acts v_M_waits v_M_place a_M_held a_M_wait a_M_act a_M_clocks a_M_counts a_M_talking a_M_heap a_M_refused
  ) else (
    if (18 + x3) < 0 ∨ 155 ≤ (18 + x3).toNatClampNeg then none else
    if (a_M_now ((18 + x3).toNatClampNeg)) = 0 then (
      g_X11_who_53 a_M_now x1 k23 x3 x2 (1 <<< (x3 &&& 31)) v_M_acts v_M_waits v_M_place a_M_held a_M_wait a_M_act a_M_clocks a_M_counts a_M_talking a_M_heap a_M_refused
    ) else (
      g_X11_who_53 a_M_now x1 k23 x3 x2 0 v_M_acts v_M_waits v_M_place a_M_held a_M_wait a_M_act a_M_clocks a_M_counts a_M_talking a_M_heap a_M_refused
    )
  )
def g_X11_who_23 (a_M_now : Nat → Int32) (x1 : Int32) : Nat → Int32 → Int32 → Int32 → Int32 → Int32 → (Nat → Int32) → (Nat → Int32) → (Nat → Int32) → (Nat → Int32) → (Nat → Int32) → (Nat → Int32) → (Nat → Int64) → (Nat → Int32) → Option (Int32 × Int32 × Int32 × Int32 × (Nat → Int32) × (Nat → Int32) × (Nat → Int32) × (Nat → Int32) × (Nat → Int32) × (Nat → Int32) × (Nat → Int64) × (Nat → Int32))
  | 0, _, _, _, _, _, _, _, _, _, _, _, _, _ => none
  | n + 1, x2, x3, v_M_acts, v_M_waits, v_M_place, a_M_held, a_M_wait, a_M_act, a_M_clocks, a_M_counts, a_M_talking, a_M_heap, a_M_refused => g_X11_who_23b a_M_now x1 (g_X11_who_23 a_M_now x1 n) x2 x3 v_M_acts v_M_waits v_M_place a_M_held a_M_wait a_M_act a_M_clocks a_M_counts a_M_talking a_M_heap a_M_refused
def g_X11_who (a_M_now : Nat → Int32) (x1 : Int32) (v_M_acts : Int32) (v_M_waits : Int32) (v_M_place : Int32) (a_M_held : Nat → Int32) (a_M_wait : Nat → Int32) (a_M_act : Nat → Int32) (a_M_clocks : Nat → Int32) (a_M_counts : Nat → Int32) (a_M_talking : Nat → Int32) (a_M_heap : Nat → Int64) (a_M_refused : Nat → Int32) : Option (Int32 × Int32 × Int32 × Int32 × (Nat → Int32) × (Nat → Int32) × (Nat → Int32) × (Nat → Int32) × (Nat → Int32) × (Nat → Int32) × (Nat → Int64) × (Nat → Int32)) :=
  (g_X11_in x1.toInt64 (0 : Int64) (2 : Int64)).bind fun v1 =>
  if v1 = 0 then (
    (g_X11_refuse (-2) a_M_refused).bind fun v9 =>
    some (v9.1, v_M_acts, v_M_waits, v_M_place, a_M_held, a_M_wait, a_M_act, a_M_clocks, a_M_counts, a_M_talking, a_M_heap, v9.2)
  ) else (
    g_X11_who_23 a_M_now x1 zF 0 0 v_M_acts v_M_waits v_M_place a_M_held a_M_wait a_M_act a_M_clocks a_M_counts a_M_talking a_M_heap a_M_refused
  )
theorem hd_X11_who : yX11_who.cls = RX11 ∧ yX11_who.cls ≠ "java/lang/invoke/MethodHandle" ∧ yX11_who.cls ≠ "java/lang/invoke/VarHandle" ∧ (parseMethodDescriptor yX11_who.desc).map (fun d => d.parameters.length) = some 1 := by decide +kernel
set_option maxHeartbeats 4000000 in
set_option maxRecDepth 100000 in
theorem c_X11_who (l : Launch) (D : va_G) (cI cJ cZ cA : ClassId) (ga : Nat → Nat) (q_M q_M_now q_M_held q_M_wait q_M_act q_M_clocks q_M_counts q_M_talking q_M_heap q_M_refused : Nat) (u_M_images : Value) (u_M_kept : Value) (u_M_text : Value) (u_M_size : Value) (u_M_sign : Value) (u_M_manyAbove : Value) (u_M_manyBelow : Value) (u_M_above : Value) (u_M_below : Value) (u_M_at : Value) (u_M_begin : Value) (u_M_kind : Value) (u_M_value : Value) (u_M_read : Value) (u_M_most : Value) (u_M_hasA : Value) (u_M_hasB : Value) (u_M_talks : Value) (u_M_big : Value) (v_M_acts : Int32) (v_M_waits : Int32) (v_M_place : Int32) (a_M_now : Nat → Int32) (a_M_held : Nat → Int32) (a_M_wait : Nat → Int32) (a_M_act : Nat → Int32) (a_M_clocks : Nat → Int32) (a_M_counts : Nat → Int32) (a_M_talking : Nat → Int32) (a_M_heap : Nat → Int64) (a_M_refused : Nat → Int32) (x1 : Int32) (o : Int32 × Int32 × Int32 × Int32 × (Nat → Int32) × (Nat → Int32) × (Nat → Int32) × (Nat → Int32) × (Nat → Int32) × (Nat → Int32) × (Nat → Int64) × (Nat → Int32)) (hg : g_X11_who a_M_now x1 v_M_acts v_M_waits v_M_place a_M_held a_M_wait a_M_act a_M_clocks a_M_counts a_M_talking a_M_heap a_M_refused = some o) : zM l yX11_who (Cond.code yX11_who cX11_who 9 (some .int) :: wsL_law) rm_X11_who D (zTy cI cJ cZ cA) ga [.ref q_M, .int x1] (ws_X11_who cI cJ cZ cA q_M q_M_now q_M_held q_M_wait q_M_act q_M_clocks q_M_counts q_M_talking q_M_heap q_M_refused u_M_images u_M_kept u_M_text u_M_size u_M_sign u_M_manyAbove u_M_manyBelow u_M_above u_M_below u_M_at u_M_begin u_M_kind u_M_value u_M_read u_M_most u_M_hasA u_M_hasB u_M_talks u_M_big v_M_acts v_M_waits v_M_place a_M_now a_M_held a_M_wait a_M_act a_M_clocks a_M_counts a_M_talking a_M_heap a_M_refused) (ws_X11_who cI cJ cZ cA q_M q_M_now q_M_held q_M_wait q_M_act q_M_clocks q_M_counts q_M_talking q_M_heap q_M_refused u_M_images u_M_kept u_M_text u_M_size u_M_sign u_M_manyAbove u_M_manyBelow u_M_above u_M_below u_M_at u_M_begin u_M_kind u_M_value u_M_read u_M_most u_M_hasA u_M_hasB u_M_talks u_M_big o.2.1 o.2.2.1 o.2.2.2.1 a_M_now o.2.2.2.2.1 o.2.2.2.2.2.1 o.2.2.2.2.2.2.1 o.2.2.2.2.2.2.2.1 o.2.2.2.2.2.2.2.2.1 o.2.2.2.2.2.2.2.2.2.1 o.2.2.2.2.2.2.2.2.2.2.1 o.2.2.2.2.2.2.2.2.2.2.2) (some (.int o.1)) := by
  refine zenterI (own := RX11) (by decide) rfl rfl (Nat.le_of_ble_eq_true rfl) ?_
  intro p e s m args below meth c A ls Q S hA hK hG hl hP hD hS hret0
  have hx := S.1
  have hb := S.2.1
  have ht : ∀ w, w ∈ wsL_law → w.before args s = true := fun w h => S.2.2.2.2 w (List.mem_cons_of_mem _ h)
  have hret : ∀ (r9 : Int32) (v_M_acts : Int32) (v_M_waits : Int32) (v_M_place : Int32) (a_M_held : Nat → Int32) (a_M_wait : Nat → Int32) (a_M_act : Nat → Int32) (a_M_clocks : Nat → Int32) (a_M_counts : Nat → Int32) (a_M_talking : Nat → Int32) (a_M_heap : Nat → Int64) (a_M_refused : Nat → Int32), (some (r9, v_M_acts, v_M_waits, v_M_place, a_M_held, a_M_wait, a_M_act, a_M_clocks, a_M_counts, a_M_talking, a_M_heap, a_M_refused) : Option (Int32 × Int32 × Int32 × Int32 × (Nat → Int32) × (Nat → Int32) × (Nat → Int32) × (Nat → Int32) × (Nat → Int32) × (Nat → Int32) × (Nat → Int64) × (Nat → Int32))) = some o → ∀ (H : Heap) (locs : List Loc) (pc : Nat) (ls : Array Slot), va_P D vwCl (ws_X11_who cI cJ cZ cA q_M q_M_now q_M_held q_M_wait q_M_act q_M_clocks q_M_counts q_M_talking q_M_heap q_M_refused u_M_images u_M_kept u_M_text u_M_size u_M_sign u_M_manyAbove u_M_manyBelow u_M_above u_M_below u_M_at u_M_begin u_M_kind u_M_value u_M_read u_M_most u_M_hasA u_M_hasB u_M_talks u_M_big v_M_acts v_M_waits v_M_place a_M_now a_M_held a_M_wait a_M_act a_M_clocks a_M_counts a_M_talking a_M_heap a_M_refused) H → va_S A s.heap H locs → decode cX11_who pc = .ok (.ireturn, 1) → W p l e rm_X11_who s m args below meth c H locs 0 0 Q (F0 m pc ls [.int r9]) := by
    intro r9 v_M_acts v_M_waits v_M_place a_M_held a_M_wait a_M_act a_M_clocks a_M_counts a_M_talking a_M_heap a_M_refused he; cases he; exact hret0
  have hl : lv_has ls 9 [(0, .ref q_M), (1, .int x1)] := hl
  have B191 : ∀ (k72 : Int32 → Int32 → Int32 → Int32 → Int32 → Int32 → Int32 → Int32 → (Nat → Int32) → (Nat → Int32) → (Nat → Int32) → (Nat → Int32) → (Nat → Int32) → (Nat → Int32) → (Nat → Int64) → (Nat → Int32) → Option (Int32 × Int32 × Int32 × Int32 × (Nat → Int32) × (Nat → Int32) × (Nat → Int32) × (Nat → Int32) × (Nat → Int32) × (Nat → Int32) × (Nat → Int64) × (Nat → Int32))) (hk72 : ∀ (x2 : Int32) (x3 : Int32) (x4 : Int32) (x5 : Int32) (x6 : Int32) (v_M_acts : Int32) (v_M_waits : Int32) (v_M_place : Int32) (a_M_held : Nat → Int32) (a_M_wait : Nat → Int32) (a_M_act : Nat → Int32) (a_M_clocks : Nat → Int32) (a_M_counts : Nat → Int32) (a_M_talking : Nat → Int32) (a_M_heap : Nat → Int64) (a_M_refused : Nat → Int32) (H : Heap) (locs : List Loc) (ls : Array Slot) (hl : lv_has ls 9 [(0, .ref q_M), (1, .int x1), (2, .int x2), (3, .int x3), (4, .int x4), (5, .int x5), (6, .int x6)]) (hP : va_P D vwCl (ws_X11_who cI cJ cZ cA q_M q_M_now q_M_held q_M_wait q_M_act q_M_clocks q_M_counts q_M_talking q_M_heap q_M_refused u_M_images u_M_kept u_M_text u_M_size u_M_sign u_M_manyAbove u_M_manyBelow u_M_above u_M_below u_M_at u_M_begin u_M_kind u_M_value u_M_read u_M_most u_M_hasA u_M_hasB u_M_talks u_M_big v_M_acts v_M_waits v_M_place a_M_now a_M_held a_M_wait a_M_act a_M_clocks a_M_counts a_M_talking a_M_heap a_M_refused) H) (hD : va_D A (ws_X11_who cI cJ cZ cA q_M q_M_now q_M_held q_M_wait q_M_act q_M_clocks q_M_counts q_M_talking q_M_heap q_M_refused u_M_images u_M_kept u_M_text u_M_size u_M_sign u_M_manyAbove u_M_manyBelow u_M_above u_M_below u_M_at u_M_begin u_M_kind u_M_value u_M_read u_M_most u_M_hasA u_M_hasB u_M_talks u_M_big v_M_acts v_M_waits v_M_place a_M_now a_M_held a_M_wait a_M_act a_M_clocks a_M_counts a_M_talking a_M_heap a_M_refused)) (hS : va_S A s.heap H locs), k72 x2 x3 x4 x5 x6 v_M_acts v_M_waits v_M_place a_M_held a_M_wait a_M_act a_M_clocks a_M_counts a_M_talking a_M_heap a_M_refused = some o → W p l e rm_X11_who s m args below meth c H locs 0 0 Q (F0 m 72 ls [])) (x2 : Int32) (x3 : Int32) (x4 : Int32) (x5 : Int32) (x6 : Int32) (v_M_acts : Int32) (v_M_waits : Int32) (v_M_place : Int32) (a_M_held : Nat → Int32) (a_M_wait : Nat → Int32) (a_M_act : Nat → Int32) (a_M_clocks : Nat → Int32) (a_M_counts : Nat → Int32) (a_M_talking : Nat → Int32) (a_M_heap : Nat → Int64) (a_M_refused : Nat → Int32) (H : Heap) (locs : List Loc) (ls : Array Slot) (hl : lv_has ls 9 [(0, .ref q_M), (1, .int x1), (2, .int x2), (3, .int x3), (4, .int x4), (5, .int x5), (6, .int x6)]) (hP : va_P D vwCl (ws_X11_who cI cJ cZ cA q_M q_M_now q_M_held q_M_wait q_M_act q_M_clocks q_M_counts q_M_talking q_M_heap q_M_refused u_M_images u_M_kept u_M_text u_M_size u_M_sign u_M_manyAbove u_M_manyBelow u_M_above u_M_below u_M_at u_M_begin u_M_kind u_M_value u_M_read u_M_most u_M_hasA u_M_hasB u_M_talks u_M_big v_M_acts v_M_waits v_M_place a_M_now a_M_held a_M_wait a_M_act a_M_clocks a_M_counts a_M_talking a_M_heap a_M_refused) H) (hD : va_D A (ws_X11_who cI cJ cZ cA q_M q_M_now q_M_held q_M_wait q_M_act q_M_clocks q_M_counts q_M_talking q_M_heap q_M_refused u_M_images u_M_kept u_M_text u_M_size u_M_sign u_M_manyAbove u_M_manyBelow u_M_above u_M_below u_M_at u_M_begin u_M_kind u_M_value u_M_read u_M_most u_M_hasA u_M_hasB u_M_talks u_M_big v_M_acts v_M_waits v_M_place a_M_now a_M_held a_M_wait a_M_act a_M_clocks a_M_counts a_M_talking a_M_heap a_M_refused)) (hS : va_S A s.heap H locs), g_X11_who_191 a_M_now x1 k72 x2 x3 x4 x5 x6 v_M_acts v_M_waits v_M_place a_M_held a_M_wait a_M_act a_M_clocks a_M_counts a_M_talking a_M_heap a_M_refused = some o → W p l e rm_X11_who s m args below meth c H locs 0 0 Q (F0 m 191 ls []) := by
    intro k72 hk72 x2 x3 x4 x5 x6 v_M_acts v_M_waits v_M_place a_M_held a_M_wait a_M_act a_M_clocks a_M_counts a_M_talking a_M_heap a_M_refused H locs ls hl hP hD hS hg
    refine lv_iinc (k := 6) (v := x6 + 1) (lv' := [(6, .int (x6 + 1)), (0, .ref q_M), (1, .int x1), (2, .int x2), (3, .int x3), (4, .int x4), (5, .int x5)]) hx hb dX11_who_191 hl rfl (zinc (by decide)) (by decide) rfl (fun ls hl => ?_)
    refine lv_goto (tgt := 72) hx hb dX11_who_194 (by decide) ?_
    exact hk72 x2 x3 x4 x5 (x6 + 1) v_M_acts v_M_waits v_M_place a_M_held a_M_wait a_M_act a_M_clocks a_M_counts a_M_talking a_M_heap a_M_refused _ _ _ (lv_sub hl [1, 2, 3, 4, 5, 6, 0] rfl) hP hD hS hg
  have B182 : ∀ (k72 : Int32 → Int32 → Int32 → Int32 → Int32 → Int32 → Int32 → Int32 → (Nat → Int32) → (Nat → Int32) → (Nat → Int32) → (Nat → Int32) → (Nat → Int32) → (Nat → Int32) → (Nat → Int64) → (Nat → Int32) → Option (Int32 × Int32 × Int32 × Int32 × (Nat → Int32) × (Nat → Int32) × (Nat → Int32) × (Nat → Int32) × (Nat → Int32) × (Nat → Int32) × (Nat → Int64) × (Nat → Int32))) (hk72 : ∀ (x2 : Int32) (x3 : Int32) (x4 : Int32) (x5 : Int32) (x6 : Int32) (v_M_acts : Int32) (v_M_waits : Int32) (v_M_place : Int32) (a_M_held : Nat → Int32) (a_M_wait : Nat → Int32) (a_M_act : Nat → Int32) (a_M_clocks : Nat → Int32) (a_M_counts : Nat → Int32) (a_M_talking : Nat → Int32) (a_M_heap : Nat → Int64) (a_M_refused : Nat → Int32) (H : Heap) (locs : List Loc) (ls : Array Slot) (hl : lv_has ls 9 [(0, .ref q_M), (1, .int x1), (2, .int x2), (3, .int x3), (4, .int x4), (5, .int x5), (6, .int x6)]) (hP : va_P D vwCl (ws_X11_who cI cJ cZ cA q_M q_M_now q_M_held q_M_wait q_M_act q_M_clocks q_M_counts q_M_talking q_M_heap q_M_refused u_M_images u_M_kept u_M_text u_M_size u_M_sign u_M_manyAbove u_M_manyBelow u_M_above u_M_below u_M_at u_M_begin u_M_kind u_M_value u_M_read u_M_most u_M_hasA u_M_hasB u_M_talks u_M_big v_M_acts v_M_waits v_M_place a_M_now a_M_held a_M_wait a_M_act a_M_clocks a_M_counts a_M_talking a_M_heap a_M_refused) H) (hD : va_D A (ws_X11_who cI cJ cZ cA q_M q_M_now q_M_held q_M_wait q_M_act q_M_clocks q_M_counts q_M_talking q_M_heap q_M_refused u_M_images u_M_kept u_M_text u_M_size u_M_sign u_M_manyAbove u_M_manyBelow u_M_above u_M_below u_M_at u_M_begin u_M_kind u_M_value u_M_read u_M_most u_M_hasA u_M_hasB u_M_talks u_M_big v_M_acts v_M_waits v_M_place a_M_now a_M_held a_M_wait a_M_act a_M_clocks a_M_counts a_M_talking a_M_heap a_M_refused)) (hS : va_S A s.heap H locs), k72 x2 x3 x4 x5 x6 v_M_acts v_M_waits v_M_place a_M_held a_M_wait a_M_act a_M_clocks a_M_counts a_M_talking a_M_heap a_M_refused = some o → W p l e rm_X11_who s m args below meth c H locs 0 0 Q (F0 m 72 ls [])) (x2 : Int32) (x3 : Int32) (x5 : Int32) (x6 : Int32) (t0 : Int32) (v_M_acts : Int32) (v_M_waits : Int32) (v_M_place : Int32) (a_M_held : Nat → Int32) (a_M_wait : Nat → Int32) (a_M_act : Nat → Int32) (a_M_clocks : Nat → Int32) (a_M_counts : Nat → Int32) (a_M_talking : Nat → Int32) (a_M_heap : Nat → Int64) (a_M_refused : Nat → Int32) (H : Heap) (locs : List Loc) (ls : Array Slot) (hl : lv_has ls 9 [(0, .ref q_M), (1, .int x1), (2, .int x2), (3, .int x3), (5, .int x5), (6, .int x6)]) (hP : va_P D vwCl (ws_X11_who cI cJ cZ cA q_M q_M_now q_M_held q_M_wait q_M_act q_M_clocks q_M_counts q_M_talking q_M_heap q_M_refused u_M_images u_M_kept u_M_text u_M_size u_M_sign u_M_manyAbove u_M_manyBelow u_M_above u_M_below u_M_at u_M_begin u_M_kind u_M_value u_M_read u_M_most u_M_hasA u_M_hasB u_M_talks u_M_big v_M_acts v_M_waits v_M_place a_M_now a_M_held a_M_wait a_M_act a_M_clocks a_M_counts a_M_talking a_M_heap a_M_refused) H) (hD : va_D A (ws_X11_who cI cJ cZ cA q_M q_M_now q_M_held q_M_wait q_M_act q_M_clocks q_M_counts q_M_talking q_M_heap q_M_refused u_M_images u_M_kept u_M_text u_M_size u_M_sign u_M_manyAbove u_M_manyBelow u_M_above u_M_below u_M_at u_M_begin u_M_kind u_M_value u_M_read u_M_most u_M_hasA u_M_hasB u_M_talks u_M_big v_M_acts v_M_waits v_M_place a_M_now a_M_held a_M_wait a_M_act a_M_clocks a_M_counts a_M_talking a_M_heap a_M_refused)) (hS : va_S A s.heap H locs), g_X11_who_182 a_M_now x1 k72 x2 x3 x5 x6 t0 v_M_acts v_M_waits v_M_place a_M_held a_M_wait a_M_act a_M_clocks a_M_counts a_M_talking a_M_heap a_M_refused = some o → W p l e rm_X11_who s m args below meth c H locs 0 0 Q (F0 m 182 ls [.int t0]) := by
    intro k72 hk72 x2 x3 x5 x6 t0 v_M_acts v_M_waits v_M_place a_M_held a_M_wait a_M_act a_M_clocks a_M_counts a_M_talking a_M_heap a_M_refused H locs ls hl hP hD hS hg
    refine lv_istore (lv' := [(4, .int t0), (0, .ref q_M), (1, .int x1), (2, .int x2), (3, .int x3), (5, .int x5), (6, .int x6)]) hx hb dX11_who_182 hl (by decide) rfl (fun ls hl => ?_)
    refine lv_iload hx hb dX11_who_184 (lv_at hl 5 rfl) ?_
    refine lv_iload hx hb dX11_who_186 (lv_at hl 6 rfl) ?_
    refine lv_iand hx hb dX11_who_188 ?_
    refine lv_istore (lv' := [(5, .int (x5 &&& x6)), (4, .int t0), (0, .ref q_M), (1, .int x1), (2, .int x2), (3, .int x3), (6, .int x6)]) hx hb dX11_who_189 hl (by decide) rfl (fun ls hl => ?_)
    exact B191 k72 hk72 x2 x3 t0 (x5 &&& x6) x6 v_M_acts v_M_waits v_M_place a_M_held a_M_wait a_M_act a_M_clocks a_M_counts a_M_talking a_M_heap a_M_refused _ _ _ (lv_sub hl [2, 3, 4, 5, 1, 0, 6] rfl) hP hD hS hg
  have B153 : ∀ (k72 : Int32 → Int32 → Int32 → Int32 → Int32 → Int32 → Int32 → Int32 → (Nat → Int32) → (Nat → Int32) → (Nat → Int32) → (Nat → Int32) → (Nat → Int32) → (Nat → Int32) → (Nat → Int64) → (Nat → Int32) → Option (Int32 × Int32 × Int32 × Int32 × (Nat → Int32) × (Nat → Int32) × (Nat → Int32) × (Nat → Int32) × (Nat → Int32) × (Nat → Int32) × (Nat → Int64) × (Nat → Int32))) (hk72 : ∀ (x2 : Int32) (x3 : Int32) (x4 : Int32) (x5 : Int32) (x6 : Int32) (v_M_acts : Int32) (v_M_waits : Int32) (v_M_place : Int32) (a_M_held : Nat → Int32) (a_M_wait : Nat → Int32) (a_M_act : Nat → Int32) (a_M_clocks : Nat → Int32) (a_M_counts : Nat → Int32) (a_M_talking : Nat → Int32) (a_M_heap : Nat → Int64) (a_M_refused : Nat → Int32) (H : Heap) (locs : List Loc) (ls : Array Slot) (hl : lv_has ls 9 [(0, .ref q_M), (1, .int x1), (2, .int x2), (3, .int x3), (4, .int x4), (5, .int x5), (6, .int x6)]) (hP : va_P D vwCl (ws_X11_who cI cJ cZ cA q_M q_M_now q_M_held q_M_wait q_M_act q_M_clocks q_M_counts q_M_talking q_M_heap q_M_refused u_M_images u_M_kept u_M_text u_M_size u_M_sign u_M_manyAbove u_M_manyBelow u_M_above u_M_below u_M_at u_M_begin u_M_kind u_M_value u_M_read u_M_most u_M_hasA u_M_hasB u_M_talks u_M_big v_M_acts v_M_waits v_M_place a_M_now a_M_held a_M_wait a_M_act a_M_clocks a_M_counts a_M_talking a_M_heap a_M_refused) H) (hD : va_D A (ws_X11_who cI cJ cZ cA q_M q_M_now q_M_held q_M_wait q_M_act q_M_clocks q_M_counts q_M_talking q_M_heap q_M_refused u_M_images u_M_kept u_M_text u_M_size u_M_sign u_M_manyAbove u_M_manyBelow u_M_above u_M_below u_M_at u_M_begin u_M_kind u_M_value u_M_read u_M_most u_M_hasA u_M_hasB u_M_talks u_M_big v_M_acts v_M_waits v_M_place a_M_now a_M_held a_M_wait a_M_act a_M_clocks a_M_counts a_M_talking a_M_heap a_M_refused)) (hS : va_S A s.heap H locs), k72 x2 x3 x4 x5 x6 v_M_acts v_M_waits v_M_place a_M_held a_M_wait a_M_act a_M_clocks a_M_counts a_M_talking a_M_heap a_M_refused = some o → W p l e rm_X11_who s m args below meth c H locs 0 0 Q (F0 m 72 ls [])) (k103 : Int32 → Int32 → Int32 → Int32 → Int32 → Int32 → Int32 → Int32 → Int32 → Int32 → (Nat → Int32) → (Nat → Int32) → (Nat → Int32) → (Nat → Int32) → (Nat → Int32) → (Nat → Int32) → (Nat → Int64) → (Nat → Int32) → Option (Int32 × Int32 × Int32 × Int32 × (Nat → Int32) × (Nat → Int32) × (Nat → Int32) × (Nat → Int32) × (Nat → Int32) × (Nat → Int32) × (Nat → Int64) × (Nat → Int32))) (hk103 : ∀ (x2 : Int32) (x3 : Int32) (x4 : Int32) (x5 : Int32) (x6 : Int32) (x7 : Int32) (x8 : Int32) (v_M_acts : Int32) (v_M_waits : Int32) (v_M_place : Int32) (a_M_held : Nat → Int32) (a_M_wait : Nat → Int32) (a_M_act : Nat → Int32) (a_M_clocks : Nat → Int32) (a_M_counts : Nat → Int32) (a_M_talking : Nat → Int32) (a_M_heap : Nat → Int64) (a_M_refused : Nat → Int32) (H : Heap) (locs : List Loc) (ls : Array Slot) (hl : lv_has ls 9 [(0, .ref q_M), (1, .int x1), (2, .int x2), (3, .int x3), (4, .int x4), (5, .int x5), (6, .int x6), (7, .int x7), (8, .int x8)]) (hP : va_P D vwCl (ws_X11_who cI cJ cZ cA q_M q_M_now q_M_held q_M_wait q_M_act q_M_clocks q_M_counts q_M_talking q_M_heap q_M_refused u_M_images u_M_kept u_M_text u_M_size u_M_sign u_M_manyAbove u_M_manyBelow u_M_above u_M_below u_M_at u_M_begin u_M_kind u_M_value u_M_read u_M_most u_M_hasA u_M_hasB u_M_talks u_M_big v_M_acts v_M_waits v_M_place a_M_now a_M_held a_M_wait a_M_act a_M_clocks a_M_counts a_M_talking a_M_heap a_M_refused) H) (hD : va_D A (ws_X11_who cI cJ cZ cA q_M q_M_now q_M_held q_M_wait q_M_act q_M_clocks q_M_counts q_M_talking q_M_heap q_M_refused u_M_images u_M_kept u_M_text u_M_size u_M_sign u_M_manyAbove u_M_manyBelow u_M_above u_M_below u_M_at u_M_begin u_M_kind u_M_value u_M_read u_M_most u_M_hasA u_M_hasB u_M_talks u_M_big v_M_acts v_M_waits v_M_place a_M_now a_M_held a_M_wait a_M_act a_M_clocks a_M_counts a_M_talking a_M_heap a_M_refused)) (hS : va_S A s.heap H locs), k103 x2 x3 x4 x5 x6 x7 x8 v_M_acts v_M_waits v_M_place a_M_held a_M_wait a_M_act a_M_clocks a_M_counts a_M_talking a_M_heap a_M_refused = some o → W p l e rm_X11_who s m args below meth c H locs 0 0 Q (F0 m 103 ls [])) (x2 : Int32) (x3 : Int32) (x4 : Int32) (x5 : Int32) (x6 : Int32) (x8 : Int32) (t0 : Int32) (v_M_acts : Int32) (v_M_waits : Int32) (v_M_place : Int32) (a_M_held : Nat → Int32) (a_M_wait : Nat → Int32) (a_M_act : Nat → Int32) (a_M_clocks : Nat → Int32) (a_M_counts : Nat → Int32) (a_M_talking : Nat → Int32) (a_M_heap : Nat → Int64) (a_M_refused : Nat → Int32) (H : Heap) (locs : List Loc) (ls : Array Slot) (hl : lv_has ls 9 [(0, .ref q_M), (1, .int x1), (2, .int x2), (3, .int x3), (4, .int x4), (5, .int x5), (6, .int x6), (8, .int x8)]) (hP : va_P D vwCl (ws_X11_who cI cJ cZ cA q_M q_M_now q_M_held q_M_wait q_M_act q_M_clocks q_M_counts q_M_talking q_M_heap q_M_refused u_M_images u_M_kept u_M_text u_M_size u_M_sign u_M_manyAbove u_M_manyBelow u_M_above u_M_below u_M_at u_M_begin u_M_kind u_M_value u_M_read u_M_most u_M_hasA u_M_hasB u_M_talks u_M_big v_M_acts v_M_waits v_M_place a_M_now a_M_held a_M_wait a_M_act a_M_clocks a_M_counts a_M_talking a_M_heap a_M_refused) H) (hD : va_D A (ws_X11_who cI cJ cZ cA q_M q_M_now q_M_held q_M_wait q_M_act q_M_clocks q_M_counts q_M_talking q_M_heap q_M_refused u_M_images u_M_kept u_M_text u_M_size u_M_sign u_M_manyAbove u_M_manyBelow u_M_above u_M_below u_M_at u_M_begin u_M_kind u_M_value u_M_read u_M_most u_M_hasA u_M_hasB u_M_talks u_M_big v_M_acts v_M_waits v_M_place a_M_now a_M_held a_M_wait a_M_act a_M_clocks a_M_counts a_M_talking a_M_heap a_M_refused)) (hS : va_S A s.heap H locs), g_X11_who_153 a_M_now x1 k72 k103 x2 x3 x4 x5 x6 x8 t0 v_M_acts v_M_waits v_M_place a_M_held a_M_wait a_M_act a_M_clocks a_M_counts a_M_talking a_M_heap a_M_refused = some o → W p l e rm_X11_who s m args below meth c H locs 0 0 Q (F0 m 153 ls [.int t0]) := by
    intro k72 hk72 k103 hk103 x2 x3 x4 x5 x6 x8 t0 v_M_acts v_M_waits v_M_place a_M_held a_M_wait a_M_act a_M_clocks a_M_counts a_M_talking a_M_heap a_M_refused H locs ls hl hP hD hS hg
    refine lv_istore (lv' := [(7, .int t0), (0, .ref q_M), (1, .int x1), (2, .int x2), (3, .int x3), (4, .int x4), (5, .int x5), (6, .int x6), (8, .int x8)]) hx hb dX11_who_153 hl (by decide) rfl (fun ls hl => ?_)
    refine lv_iinc (k := 8) (v := x8 + 1) (lv' := [(8, .int (x8 + 1)), (7, .int t0), (0, .ref q_M), (1, .int x1), (2, .int x2), (3, .int x3), (4, .int x4), (5, .int x5), (6, .int x6)]) hx hb dX11_who_155 hl rfl (zinc (by decide)) (by decide) rfl (fun ls hl => ?_)
    refine lv_goto (tgt := 103) hx hb dX11_who_158 (by decide) ?_
    exact hk103 x2 x3 x4 x5 x6 t0 (x8 + 1) v_M_acts v_M_waits v_M_place a_M_held a_M_wait a_M_act a_M_clocks a_M_counts a_M_talking a_M_heap a_M_refused _ _ _ (lv_sub hl [2, 3, 4, 5, 6, 7, 8, 1, 0] rfl) hP hD hS hg
  have B152 : ∀ (k72 : Int32 → Int32 → Int32 → Int32 → Int32 → Int32 → Int32 → Int32 → (Nat → Int32) → (Nat → Int32) → (Nat → Int32) → (Nat → Int32) → (Nat → Int32) → (Nat → Int32) → (Nat → Int64) → (Nat → Int32) → Option (Int32 × Int32 × Int32 × Int32 × (Nat → Int32) × (Nat → Int32) × (Nat → Int32) × (Nat → Int32) × (Nat → Int32) × (Nat → Int32) × (Nat → Int64) × (Nat → Int32))) (hk72 : ∀ (x2 : Int32) (x3 : Int32) (x4 : Int32) (x5 : Int32) (x6 : Int32) (v_M_acts : Int32) (v_M_waits : Int32) (v_M_place : Int32) (a_M_held : Nat → Int32) (a_M_wait : Nat → Int32) (a_M_act : Nat → Int32) (a_M_clocks : Nat → Int32) (a_M_counts : Nat → Int32) (a_M_talking : Nat → Int32) (a_M_heap : Nat → Int64) (a_M_refused : Nat → Int32) (H : Heap) (locs : List Loc) (ls : Array Slot) (hl : lv_has ls 9 [(0, .ref q_M), (1, .int x1), (2, .int x2), (3, .int x3), (4, .int x4), (5, .int x5), (6, .int x6)]) (hP : va_P D vwCl (ws_X11_who cI cJ cZ cA q_M q_M_now q_M_held q_M_wait q_M_act q_M_clocks q_M_counts q_M_talking q_M_heap q_M_refused u_M_images u_M_kept u_M_text u_M_size u_M_sign u_M_manyAbove u_M_manyBelow u_M_above u_M_below u_M_at u_M_begin u_M_kind u_M_value u_M_read u_M_most u_M_hasA u_M_hasB u_M_talks u_M_big v_M_acts v_M_waits v_M_place a_M_now a_M_held a_M_wait a_M_act a_M_clocks a_M_counts a_M_talking a_M_heap a_M_refused) H) (hD : va_D A (ws_X11_who cI cJ cZ cA q_M q_M_now q_M_held q_M_wait q_M_act q_M_clocks q_M_counts q_M_talking q_M_heap q_M_refused u_M_images u_M_kept u_M_text u_M_size u_M_sign u_M_manyAbove u_M_manyBelow u_M_above u_M_below u_M_at u_M_begin u_M_kind u_M_value u_M_read u_M_most u_M_hasA u_M_hasB u_M_talks u_M_big v_M_acts v_M_waits v_M_place a_M_now a_M_held a_M_wait a_M_act a_M_clocks a_M_counts a_M_talking a_M_heap a_M_refused)) (hS : va_S A s.heap H locs), k72 x2 x3 x4 x5 x6 v_M_acts v_M_waits v_M_place a_M_held a_M_wait a_M_act a_M_clocks a_M_counts a_M_talking a_M_heap a_M_refused = some o → W p l e rm_X11_who s m args below meth c H locs 0 0 Q (F0 m 72 ls [])) (k103 : Int32 → Int32 → Int32 → Int32 → Int32 → Int32 → Int32 → Int32 → Int32 → Int32 → (Nat → Int32) → (Nat → Int32) → (Nat → Int32) → (Nat → Int32) → (Nat → Int32) → (Nat → Int32) → (Nat → Int64) → (Nat → Int32) → Option (Int32 × Int32 × Int32 × Int32 × (Nat → Int32) × (Nat → Int32) × (Nat → Int32) × (Nat → Int32) × (Nat → Int32) × (Nat → Int32) × (Nat → Int64) × (Nat → Int32))) (hk103 : ∀ (x2 : Int32) (x3 : Int32) (x4 : Int32) (x5 : Int32) (x6 : Int32) (x7 : Int32) (x8 : Int32) (v_M_acts : Int32) (v_M_waits : Int32) (v_M_place : Int32) (a_M_held : Nat → Int32) (a_M_wait : Nat → Int32) (a_M_act : Nat → Int32) (a_M_clocks : Nat → Int32) (a_M_counts : Nat → Int32) (a_M_talking : Nat → Int32) (a_M_heap : Nat → Int64) (a_M_refused : Nat → Int32) (H : Heap) (locs : List Loc) (ls : Array Slot) (hl : lv_has ls 9 [(0, .ref q_M), (1, .int x1), (2, .int x2), (3, .int x3), (4, .int x4), (5, .int x5), (6, .int x6), (7, .int x7), (8, .int x8)]) (hP : va_P D vwCl (ws_X11_who cI cJ cZ cA q_M q_M_now q_M_held q_M_wait q_M_act q_M_clocks q_M_counts q_M_talking q_M_heap q_M_refused u_M_images u_M_kept u_M_text u_M_size u_M_sign u_M_manyAbove u_M_manyBelow u_M_above u_M_below u_M_at u_M_begin u_M_kind u_M_value u_M_read u_M_most u_M_hasA u_M_hasB u_M_talks u_M_big v_M_acts v_M_waits v_M_place a_M_now a_M_held a_M_wait a_M_act a_M_clocks a_M_counts a_M_talking a_M_heap a_M_refused) H) (hD : va_D A (ws_X11_who cI cJ cZ cA q_M q_M_now q_M_held q_M_wait q_M_act q_M_clocks q_M_counts q_M_talking q_M_heap q_M_refused u_M_images u_M_kept u_M_text u_M_size u_M_sign u_M_manyAbove u_M_manyBelow u_M_above u_M_below u_M_at u_M_begin u_M_kind u_M_value u_M_read u_M_most u_M_hasA u_M_hasB u_M_talks u_M_big v_M_acts v_M_waits v_M_place a_M_now a_M_held a_M_wait a_M_act a_M_clocks a_M_counts a_M_talking a_M_heap a_M_refused)) (hS : va_S A s.heap H locs), k103 x2 x3 x4 x5 x6 x7 x8 v_M_acts v_M_waits v_M_place a_M_held a_M_wait a_M_act a_M_clocks a_M_counts a_M_talking a_M_heap a_M_refused = some o → W p l e rm_X11_who s m args below meth c H locs 0 0 Q (F0 m 103 ls [])) (x2 : Int32) (x3 : Int32) (x4 : Int32) (x5 : Int32) (x6 : Int32) (x8 : Int32) (v_M_acts : Int32) (v_M_waits : Int32) (v_M_place : Int32) (a_M_held : Nat → Int32) (a_M_wait : Nat → Int32) (a_M_act : Nat → Int32) (a_M_clocks : Nat → Int32) (a_M_counts : Nat → Int32) (a_M_talking : Nat → Int32) (a_M_heap : Nat → Int64) (a_M_refused : Nat → Int32) (H : Heap) (locs : List Loc) (ls : Array Slot) (hl : lv_has ls 9 [(0, .ref q_M), (1, .int x1), (2, .int x2), (3, .int x3), (4, .int x4), (5, .int x5), (6, .int x6), (8, .int x8)]) (hP : va_P D vwCl (ws_X11_who cI cJ cZ cA q_M q_M_now q_M_held q_M_wait q_M_act q_M_clocks q_M_counts q_M_talking q_M_heap q_M_refused u_M_images u_M_kept u_M_text u_M_size u_M_sign u_M_manyAbove u_M_manyBelow u_M_above u_M_below u_M_at u_M_begin u_M_kind u_M_value u_M_read u_M_most u_M_hasA u_M_hasB u_M_talks u_M_big v_M_acts v_M_waits v_M_place a_M_now a_M_held a_M_wait a_M_act a_M_clocks a_M_counts a_M_talking a_M_heap a_M_refused) H) (hD : va_D A (ws_X11_who cI cJ cZ cA q_M q_M_now q_M_held q_M_wait q_M_act q_M_clocks q_M_counts q_M_talking q_M_heap q_M_refused u_M_images u_M_kept u_M_text u_M_size u_M_sign u_M_manyAbove u_M_manyBelow u_M_above u_M_below u_M_at u_M_begin u_M_kind u_M_value u_M_read u_M_most u_M_hasA u_M_hasB u_M_talks u_M_big v_M_acts v_M_waits v_M_place a_M_now a_M_held a_M_wait a_M_act a_M_clocks a_M_counts a_M_talking a_M_heap a_M_refused)) (hS : va_S A s.heap H locs), g_X11_who_152 a_M_now x1 k72 k103 x2 x3 x4 x5 x6 x8 v_M_acts v_M_waits v_M_place a_M_held a_M_wait a_M_act a_M_clocks a_M_counts a_M_talking a_M_heap a_M_refused = some o → W p l e rm_X11_who s m args below meth c H locs 0 0 Q (F0 m 152 ls []) := by
    intro k72 hk72 k103 hk103 x2 x3 x4 x5 x6 x8 v_M_acts v_M_waits v_M_place a_M_held a_M_wait a_M_act a_M_clocks a_M_counts a_M_talking a_M_heap a_M_refused H locs ls hl hP hD hS hg
    refine lv_iconst (v := 0) hx hb dX11_who_152 (by decide) ?_
    exact B153 k72 hk72 k103 hk103 x2 x3 x4 x5 x6 x8 0 v_M_acts v_M_waits v_M_place a_M_held a_M_wait a_M_act a_M_clocks a_M_counts a_M_talking a_M_heap a_M_refused _ _ _ hl hP hD hS hg
  have B103 : ∀ (k72 : Int32 → Int32 → Int32 → Int32 → Int32 → Int32 → Int32 → Int32 → (Nat → Int32) → (Nat → Int32) → (Nat → Int32) → (Nat → Int32) → (Nat → Int32) → (Nat → Int32) → (Nat → Int64) → (Nat → Int32) → Option (Int32 × Int32 × Int32 × Int32 × (Nat → Int32) × (Nat → Int32) × (Nat → Int32) × (Nat → Int32) × (Nat → Int32) × (Nat → Int32) × (Nat → Int64) × (Nat → Int32))) (hk72 : ∀ (x2 : Int32) (x3 : Int32) (x4 : Int32) (x5 : Int32) (x6 : Int32) (v_M_acts : Int32) (v_M_waits : Int32) (v_M_place : Int32) (a_M_held : Nat → Int32) (a_M_wait : Nat → Int32) (a_M_act : Nat → Int32) (a_M_clocks : Nat → Int32) (a_M_counts : Nat → Int32) (a_M_talking : Nat → Int32) (a_M_heap : Nat → Int64) (a_M_refused : Nat → Int32) (H : Heap) (locs : List Loc) (ls : Array Slot) (hl : lv_has ls 9 [(0, .ref q_M), (1, .int x1), (2, .int x2), (3, .int x3), (4, .int x4), (5, .int x5), (6, .int x6)]) (hP : va_P D vwCl (ws_X11_who cI cJ cZ cA q_M q_M_now q_M_held q_M_wait q_M_act q_M_clocks q_M_counts q_M_talking q_M_heap q_M_refused u_M_images u_M_kept u_M_text u_M_size u_M_sign u_M_manyAbove u_M_manyBelow u_M_above u_M_below u_M_at u_M_begin u_M_kind u_M_value u_M_read u_M_most u_M_hasA u_M_hasB u_M_talks u_M_big v_M_acts v_M_waits v_M_place a_M_now a_M_held a_M_wait a_M_act a_M_clocks a_M_counts a_M_talking a_M_heap a_M_refused) H) (hD : va_D A (ws_X11_who cI cJ cZ cA q_M q_M_now q_M_held q_M_wait q_M_act q_M_clocks q_M_counts q_M_talking q_M_heap q_M_refused u_M_images u_M_kept u_M_text u_M_size u_M_sign u_M_manyAbove u_M_manyBelow u_M_above u_M_below u_M_at u_M_begin u_M_kind u_M_value u_M_read u_M_most u_M_hasA u_M_hasB u_M_talks u_M_big v_M_acts v_M_waits v_M_place a_M_now a_M_held a_M_wait a_M_act a_M_clocks a_M_counts a_M_talking a_M_heap a_M_refused)) (hS : va_S A s.heap H locs), k72 x2 x3 x4 x5 x6 v_M_acts v_M_waits v_M_place a_M_held a_M_wait a_M_act a_M_clocks a_M_counts a_M_talking a_M_heap a_M_refused = some o → W p l e rm_X11_who s m args below meth c H locs 0 0 Q (F0 m 72 ls []))  (n : Nat) (x2 : Int32) (x3 : Int32) (x4 : Int32) (x5 : Int32) (x6 : Int32) (x7 : Int32) (x8 : Int32) (v_M_acts : Int32) (v_M_waits : Int32) (v_M_place : Int32) (a_M_held : Nat → Int32) (a_M_wait : Nat → Int32) (a_M_act : Nat → Int32) (a_M_clocks : Nat → Int32) (a_M_counts : Nat → Int32) (a_M_talking : Nat → Int32) (a_M_heap : Nat → Int64) (a_M_refused : Nat → Int32) (H : Heap) (locs : List Loc) (ls : Array Slot) (hl : lv_has ls 9 [(0, .ref q_M), (1, .int x1), (2, .int x2), (3, .int x3), (4, .int x4), (5, .int x5), (6, .int x6), (7, .int x7), (8, .int x8)]) (hP : va_P D vwCl (ws_X11_who cI cJ cZ cA q_M q_M_now q_M_held q_M_wait q_M_act q_M_clocks q_M_counts q_M_talking q_M_heap q_M_refused u_M_images u_M_kept u_M_text u_M_size u_M_sign u_M_manyAbove u_M_manyBelow u_M_above u_M_below u_M_at u_M_begin u_M_kind u_M_value u_M_read u_M_most u_M_hasA u_M_hasB u_M_talks u_M_big v_M_acts v_M_waits v_M_place a_M_now a_M_held a_M_wait a_M_act a_M_clocks a_M_counts a_M_talking a_M_heap a_M_refused) H) (hD : va_D A (ws_X11_who cI cJ cZ cA q_M q_M_now q_M_held q_M_wait q_M_act q_M_clocks q_M_counts q_M_talking q_M_heap q_M_refused u_M_images u_M_kept u_M_text u_M_size u_M_sign u_M_manyAbove u_M_manyBelow u_M_above u_M_below u_M_at u_M_begin u_M_kind u_M_value u_M_read u_M_most u_M_hasA u_M_hasB u_M_talks u_M_big v_M_acts v_M_waits v_M_place a_M_now a_M_held a_M_wait a_M_act a_M_clocks a_M_counts a_M_talking a_M_heap a_M_refused)) (hS : va_S A s.heap H locs), g_X11_who_103 a_M_now x1 k72 n x2 x3 x4 x5 x6 x7 x8 v_M_acts v_M_waits v_M_place a_M_held a_M_wait a_M_act a_M_clocks a_M_counts a_M_talking a_M_heap a_M_refused = some o → W p l e rm_X11_who s m args below meth c H locs 0 0 Q (F0 m 103 ls []) := by
    intro k72 hk72 n
    induction n with
    | zero => intro x2 x3 x4 x5 x6 x7 x8 v_M_acts v_M_waits v_M_place a_M_held a_M_wait a_M_act a_M_clocks a_M_counts a_M_talking a_M_heap a_M_refused H locs ls hl hP hD hS hg; exact nomatch (show (none : Option (Int32 × Int32 × Int32 × Int32 × (Nat → Int32) × (Nat → Int32) × (Nat → Int32) × (Nat → Int32) × (Nat → Int32) × (Nat → Int32) × (Nat → Int64) × (Nat → Int32))) = some o from hg)
    | succ n ih =>
      intro x2 x3 x4 x5 x6 x7 x8 v_M_acts v_M_waits v_M_place a_M_held a_M_wait a_M_act a_M_clocks a_M_counts a_M_talking a_M_heap a_M_refused H locs ls hl hP hD hS hg
      have hg : g_X11_who_103b a_M_now x1 k72 (g_X11_who_103 a_M_now x1 k72 n) x2 x3 x4 x5 x6 x7 x8 v_M_acts v_M_waits v_M_place a_M_held a_M_wait a_M_act a_M_clocks a_M_counts a_M_talking a_M_heap a_M_refused = some o := hg
      refine lv_iload hx hb dX11_who_103 (lv_at hl 8 rfl) ?_
      refine lv_aload_n hx hb dX11_who_105 rfl (lv_at hl 0 rfl) ?_
      refine zget (C := RX11) (T := TX11) (N := 31) S hK hP 0 rfl rfl 0 (Nat.le_of_ble_eq_true rfl) zf_11 zw_149 rfl dX11_who_106 ?_
      refine lv_bipush (v := 6) hx hb dX11_who_109 (by decide) ?_
      refine ziald hx hb hK hP 1 0 rfl rfl (j := 6) (zin (by decide)) (by decide) dX11_who_111 ?_
      refine lv_icmp_ge (tgt := 161) hx hb dX11_who_112 (by decide) (fun h112 => ?_) (fun h112 => ?_)
      · have hg := zp hg h112
        refine lv_iload hx hb dX11_who_161 (lv_at hl 7 rfl) ?_
        refine lv_if_eq (tgt := 191) hx hb dX11_who_163 (by decide) (fun h163 => ?_) (fun h163 => ?_)
        · have hg := zp hg h163
          exact B191 k72 hk72 x2 x3 x4 x5 x6 v_M_acts v_M_waits v_M_place a_M_held a_M_wait a_M_act a_M_clocks a_M_counts a_M_talking a_M_heap a_M_refused _ _ _ (lv_sub hl [0, 1, 2, 3, 4, 5, 6] rfl) hP hD hS hg
        · have hg := zn hg h163
          refine lv_iinc (k := 3) (v := x3 + 1) (lv' := [(3, .int (x3 + 1)), (0, .ref q_M), (1, .int x1), (2, .int x2), (4, .int x4), (5, .int x5), (6, .int x6), (7, .int x7), (8, .int x8)]) hx hb dX11_who_166 hl rfl (zinc (by decide)) (by decide) rfl (fun ls hl => ?_)
          refine lv_iload hx hb dX11_who_169 (lv_at hl 4 rfl) ?_
          refine lv_iconst (v := (-1)) hx hb dX11_who_171 (by decide) ?_
          refine lv_icmp_ne (tgt := 180) hx hb dX11_who_172 (by decide) (fun h172 => ?_) (fun h172 => ?_)
          · have hg := zn hg h172
            refine lv_iload hx hb dX11_who_180 (lv_at hl 4 rfl) ?_
            exact B182 k72 hk72 x2 (x3 + 1) x5 x6 x4 v_M_acts v_M_waits v_M_place a_M_held a_M_wait a_M_act a_M_clocks a_M_counts a_M_talking a_M_heap a_M_refused _ _ _ (lv_sub hl [1, 2, 3, 0, 5, 6] rfl) hP hD hS hg
          · have hg := zp hg h172
            refine lv_iload hx hb dX11_who_175 (lv_at hl 6 rfl) ?_
            refine lv_goto (tgt := 182) hx hb dX11_who_177 (by decide) ?_
            exact B182 k72 hk72 x2 (x3 + 1) x5 x6 x6 v_M_acts v_M_waits v_M_place a_M_held a_M_wait a_M_act a_M_clocks a_M_counts a_M_talking a_M_heap a_M_refused _ _ _ (lv_sub hl [1, 2, 3, 0, 5, 6] rfl) hP hD hS hg
      · have hg := zn hg h112
        refine lv_iload hx hb dX11_who_115 (lv_at hl 7 rfl) ?_
        refine lv_if_eq (tgt := 152) hx hb dX11_who_117 (by decide) (fun h117 => ?_) (fun h117 => ?_)
        · have hg := zp hg h117
          exact B152 k72 hk72 (g_X11_who_103 a_M_now x1 k72 n) ih x2 x3 x4 x5 x6 x8 v_M_acts v_M_waits v_M_place a_M_held a_M_wait a_M_act a_M_clocks a_M_counts a_M_talking a_M_heap a_M_refused _ _ _ (lv_sub hl [0, 1, 2, 3, 4, 5, 6, 8] rfl) hP hD hS hg
        · have hg := zn hg h117
          refine lv_aload_n hx hb dX11_who_120 rfl (lv_at hl 0 rfl) ?_
          refine zget (C := RX11) (T := TX11) (N := 31) S hK hP 0 rfl rfl 23 (Nat.le_of_ble_eq_true rfl) zf_11 zw_162 rfl dX11_who_121 ?_
          refine lv_aload_n hx hb dX11_who_124 rfl (lv_at hl 0 rfl) ?_
          refine zget (C := RX11) (T := TX11) (N := 31) S hK hP 0 rfl rfl 0 (Nat.le_of_ble_eq_true rfl) zf_11 zw_149 rfl dX11_who_125 ?_
          refine lv_bipush (v := 95) hx hb dX11_who_128 (by decide) ?_
          refine lv_iload hx hb dX11_who_130 (lv_at hl 8 rfl) ?_
          refine lv_iadd hx hb dX11_who_132 ?_
          obtain ⟨h5, hg⟩ := zck hg
          refine ziald hx hb hK hP 1 0 rfl rfl (j := ((95 + x8).toNatClampNeg)) h5 rfl dX11_who_133 ?_
          obtain ⟨h6, hg⟩ := zck hg
          refine ziald hx hb hK hP 5 0 rfl rfl (j := ((a_M_now ((95 + x8).toNatClampNeg)).toNatClampNeg)) h6 rfl dX11_who_134 ?_
          refine lv_aload_n hx hb dX11_who_135 rfl (lv_at hl 0 rfl) ?_
          refine zget (C := RX11) (T := TX11) (N := 31) S hK hP 0 rfl rfl 0 (Nat.le_of_ble_eq_true rfl) zf_11 zw_149 rfl dX11_who_136 ?_
          refine lv_bipush (v := 105) hx hb dX11_who_139 (by decide) ?_
          refine lv_iload hx hb dX11_who_141 (lv_at hl 8 rfl) ?_
          refine lv_iadd hx hb dX11_who_143 ?_
          obtain ⟨h7, hg⟩ := zck hg
          refine ziald hx hb hK hP 1 0 rfl rfl (j := ((105 + x8).toNatClampNeg)) h7 rfl dX11_who_144 ?_
          refine lv_icmp_ne (tgt := 152) hx hb dX11_who_145 (by decide) (fun h145 => ?_) (fun h145 => ?_)
          · have hg := zn hg h145
            exact B152 k72 hk72 (g_X11_who_103 a_M_now x1 k72 n) ih x2 x3 x4 x5 x6 x8 v_M_acts v_M_waits v_M_place a_M_held a_M_wait a_M_act a_M_clocks a_M_counts a_M_talking a_M_heap a_M_refused _ _ _ (lv_sub hl [0, 1, 2, 3, 4, 5, 6, 8] rfl) hP hD hS hg
          · have hg := zp hg h145
            refine lv_iconst (v := 1) hx hb dX11_who_148 (by decide) ?_
            refine lv_goto (tgt := 153) hx hb dX11_who_149 (by decide) ?_
            exact B153 k72 hk72 (g_X11_who_103 a_M_now x1 k72 n) ih x2 x3 x4 x5 x6 x8 1 v_M_acts v_M_waits v_M_place a_M_held a_M_wait a_M_act a_M_clocks a_M_counts a_M_talking a_M_heap a_M_refused _ _ _ (lv_sub hl [0, 1, 2, 3, 4, 5, 6, 8] rfl) hP hD hS hg
  have B72 : ∀  (n : Nat) (x2 : Int32) (x3 : Int32) (x4 : Int32) (x5 : Int32) (x6 : Int32) (v_M_acts : Int32) (v_M_waits : Int32) (v_M_place : Int32) (a_M_held : Nat → Int32) (a_M_wait : Nat → Int32) (a_M_act : Nat → Int32) (a_M_clocks : Nat → Int32) (a_M_counts : Nat → Int32) (a_M_talking : Nat → Int32) (a_M_heap : Nat → Int64) (a_M_refused : Nat → Int32) (H : Heap) (locs : List Loc) (ls : Array Slot) (hl : lv_has ls 9 [(0, .ref q_M), (1, .int x1), (2, .int x2), (3, .int x3), (4, .int x4), (5, .int x5), (6, .int x6)]) (hP : va_P D vwCl (ws_X11_who cI cJ cZ cA q_M q_M_now q_M_held q_M_wait q_M_act q_M_clocks q_M_counts q_M_talking q_M_heap q_M_refused u_M_images u_M_kept u_M_text u_M_size u_M_sign u_M_manyAbove u_M_manyBelow u_M_above u_M_below u_M_at u_M_begin u_M_kind u_M_value u_M_read u_M_most u_M_hasA u_M_hasB u_M_talks u_M_big v_M_acts v_M_waits v_M_place a_M_now a_M_held a_M_wait a_M_act a_M_clocks a_M_counts a_M_talking a_M_heap a_M_refused) H) (hD : va_D A (ws_X11_who cI cJ cZ cA q_M q_M_now q_M_held q_M_wait q_M_act q_M_clocks q_M_counts q_M_talking q_M_heap q_M_refused u_M_images u_M_kept u_M_text u_M_size u_M_sign u_M_manyAbove u_M_manyBelow u_M_above u_M_below u_M_at u_M_begin u_M_kind u_M_value u_M_read u_M_most u_M_hasA u_M_hasB u_M_talks u_M_big v_M_acts v_M_waits v_M_place a_M_now a_M_held a_M_wait a_M_act a_M_clocks a_M_counts a_M_talking a_M_heap a_M_refused)) (hS : va_S A s.heap H locs), g_X11_who_72 a_M_now x1 n x2 x3 x4 x5 x6 v_M_acts v_M_waits v_M_place a_M_held a_M_wait a_M_act a_M_clocks a_M_counts a_M_talking a_M_heap a_M_refused = some o → W p l e rm_X11_who s m args below meth c H locs 0 0 Q (F0 m 72 ls []) := by
    intro  n
    induction n with
    | zero => intro x2 x3 x4 x5 x6 v_M_acts v_M_waits v_M_place a_M_held a_M_wait a_M_act a_M_clocks a_M_counts a_M_talking a_M_heap a_M_refused H locs ls hl hP hD hS hg; exact nomatch (show (none : Option (Int32 × Int32 × Int32 × Int32 × (Nat → Int32) × (Nat → Int32) × (Nat → Int32) × (Nat → Int32) × (Nat → Int32) × (Nat → Int32) × (Nat → Int64) × (Nat → Int32))) = some o from hg)
    | succ n ih =>
      intro x2 x3 x4 x5 x6 v_M_acts v_M_waits v_M_place a_M_held a_M_wait a_M_act a_M_clocks a_M_counts a_M_talking a_M_heap a_M_refused H locs ls hl hP hD hS hg
      have hg : g_X11_who_72b a_M_now x1 (g_X11_who_72 a_M_now x1 n) x2 x3 x4 x5 x6 v_M_acts v_M_waits v_M_place a_M_held a_M_wait a_M_act a_M_clocks a_M_counts a_M_talking a_M_heap a_M_refused = some o := hg
      refine lv_iload hx hb dX11_who_72 (lv_at hl 6 rfl) ?_
      refine lv_bipush (v := 32) hx hb dX11_who_74 (by decide) ?_
      refine lv_icmp_ge (tgt := 197) hx hb dX11_who_76 (by decide) (fun h76 => ?_) (fun h76 => ?_)
      · have hg := zp hg h76
        refine lv_iload_n hx hb dX11_who_197 rfl (lv_at hl 1 rfl) ?_
        refine lv_if_ne (tgt := 205) hx hb dX11_who_198 (by decide) (fun h198 => ?_) (fun h198 => ?_)
        · have hg := zn hg h198
          refine lv_iload_n hx hb dX11_who_205 rfl (lv_at hl 3 rfl) ?_
          refine lv_if_ne (tgt := 213) hx hb dX11_who_206 (by decide) (fun h206 => ?_) (fun h206 => ?_)
          · have hg := zn hg h206
            refine lv_iload_n hx hb dX11_who_213 rfl (lv_at hl 1 rfl) ?_
            refine lv_iconst (v := 1) hx hb dX11_who_214 (by decide) ?_
            refine lv_icmp_ne (tgt := 223) hx hb dX11_who_215 (by decide) (fun h215 => ?_) (fun h215 => ?_)
            · have hg := zn hg h215
              refine lv_iload hx hb dX11_who_223 (lv_at hl 5 rfl) ?_
              exact hret x5 v_M_acts v_M_waits v_M_place a_M_held a_M_wait a_M_act a_M_clocks a_M_counts a_M_talking a_M_heap a_M_refused hg _ _ _ _ hP hS dX11_who_225
            · have hg := zp hg h215
              refine lv_iload hx hb dX11_who_218 (lv_at hl 4 rfl) ?_
              refine lv_goto (tgt := 225) hx hb dX11_who_220 (by decide) ?_
              exact hret x4 v_M_acts v_M_waits v_M_place a_M_held a_M_wait a_M_act a_M_clocks a_M_counts a_M_talking a_M_heap a_M_refused hg _ _ _ _ hP hS dX11_who_225
          · have hg := zp hg h206
            refine lv_iconst (v := (-1)) hx hb dX11_who_209 (by decide) ?_
            refine lv_goto (tgt := 225) hx hb dX11_who_210 (by decide) ?_
            exact hret (-1) v_M_acts v_M_waits v_M_place a_M_held a_M_wait a_M_act a_M_clocks a_M_counts a_M_talking a_M_heap a_M_refused hg _ _ _ _ hP hS dX11_who_225
        · have hg := zp hg h198
          refine lv_iload_n hx hb dX11_who_201 rfl (lv_at hl 3 rfl) ?_
          refine lv_goto (tgt := 225) hx hb dX11_who_202 (by decide) ?_
          exact hret x3 v_M_acts v_M_waits v_M_place a_M_held a_M_wait a_M_act a_M_clocks a_M_counts a_M_talking a_M_heap a_M_refused hg _ _ _ _ hP hS dX11_who_225
      · have hg := zn hg h76
        refine lv_iload hx hb dX11_who_79 (lv_at hl 6 rfl) ?_
        refine lv_iload_n hx hb dX11_who_81 rfl (lv_at hl 2 rfl) ?_
        refine lv_iconst (v := (-1)) hx hb dX11_who_82 (by decide) ?_
        refine lv_ixor hx hb dX11_who_83 ?_
        refine lv_iand hx hb dX11_who_84 ?_
        refine lv_if_eq (tgt := 91) hx hb dX11_who_85 (by decide) (fun h85 => ?_) (fun h85 => ?_)
        · have hg := zp hg h85
          refine lv_aload_n hx hb dX11_who_91 rfl (lv_at hl 0 rfl) ?_
          refine lv_iload hx hb dX11_who_92 (lv_at hl 6 rfl) ?_
          obtain ⟨v3, hc4, hg⟩ := zbd hg
          refine zcallV (rest := []) S (c_X11_winds l D cI cJ cZ cA ga q_M q_M_held q_M_now q_M_wait q_M_act q_M_clocks q_M_counts q_M_talking q_M_heap u_M_images u_M_kept u_M_text u_M_size u_M_sign u_M_manyAbove u_M_manyBelow u_M_above u_M_below (.ref q_M_refused) u_M_at u_M_begin u_M_kind u_M_value u_M_read u_M_most u_M_hasA u_M_hasB u_M_talks u_M_big v_M_acts v_M_waits v_M_place a_M_held a_M_now a_M_wait a_M_act a_M_clocks a_M_counts a_M_talking a_M_heap x6 v3 hc4) (zgV zw_678 zw_679 zw_680 zw_5 zw_681) rfl hd_X11_winds ⟨rfl, rfl⟩ ⟨Nat.le_of_ble_eq_true rfl, Nat.le_of_ble_eq_true rfl⟩ 0 11 rfl rfl rfl hl.1 rfl (Nat.le_of_ble_eq_true rfl) dX11_who_94 hP hD hS hA hK hG (isC := [0, 2, 1, 3, 4, 5, 6, 7, 8]) rfl (by decide +kernel) rfl ⟨Nat.zero_le _, Nat.zero_le _⟩ (pl := [some 0, some 2, some 1, some 3, some 4, some 5, some 6, some 7, some 8, none]) (nw := 10) rfl (by decide +kernel) (w2 := (ws_X11_who cI cJ cZ cA q_M q_M_now q_M_held q_M_wait q_M_act q_M_clocks q_M_counts q_M_talking q_M_heap q_M_refused u_M_images u_M_kept u_M_text u_M_size u_M_sign u_M_manyAbove u_M_manyBelow u_M_above u_M_below u_M_at u_M_begin u_M_kind u_M_value u_M_read u_M_most u_M_hasA u_M_hasB u_M_talks u_M_big v3.1 v3.2.1 v3.2.2.1 a_M_now v3.2.2.2.1 v3.2.2.2.2.1 v3.2.2.2.2.2.1 v3.2.2.2.2.2.2.1 v3.2.2.2.2.2.2.2.1 v3.2.2.2.2.2.2.2.2.1 v3.2.2.2.2.2.2.2.2.2 a_M_refused)) rfl (st1 := []) rfl (fun H locs hP hD hS => ?_)
          refine lv_iconst (v := 1) hx hb dX11_who_97 (by decide) ?_
          refine lv_istore (lv' := [(7, .int 1), (0, .ref q_M), (1, .int x1), (2, .int x2), (3, .int x3), (4, .int x4), (5, .int x5), (6, .int x6)]) hx hb dX11_who_98 hl (by decide) rfl (fun ls hl => ?_)
          refine lv_iconst (v := 0) hx hb dX11_who_100 (by decide) ?_
          refine lv_istore (lv' := [(8, .int 0), (7, .int 1), (0, .ref q_M), (1, .int x1), (2, .int x2), (3, .int x3), (4, .int x4), (5, .int x5), (6, .int x6)]) hx hb dX11_who_101 hl (by decide) rfl (fun ls hl => ?_)
          exact B103 (g_X11_who_72 a_M_now x1 n) ih zF x2 x3 x4 x5 x6 1 0 v3.1 v3.2.1 v3.2.2.1 v3.2.2.2.1 v3.2.2.2.2.1 v3.2.2.2.2.2.1 v3.2.2.2.2.2.2.1 v3.2.2.2.2.2.2.2.1 v3.2.2.2.2.2.2.2.2.1 v3.2.2.2.2.2.2.2.2.2 a_M_refused _ _ _ (lv_sub hl [2, 3, 4, 5, 6, 7, 8, 1, 0] rfl) hP hD hS hg
        · have hg := zn hg h85
          refine lv_goto (tgt := 191) hx hb dX11_who_88 (by decide) ?_
          exact B191 (g_X11_who_72 a_M_now x1 n) ih x2 x3 x4 x5 x6 v_M_acts v_M_waits v_M_place a_M_held a_M_wait a_M_act a_M_clocks a_M_counts a_M_talking a_M_heap a_M_refused _ _ _ hl hP hD hS hg
  have B53 : ∀ (k23 : Int32 → Int32 → Int32 → Int32 → Int32 → (Nat → Int32) → (Nat → Int32) → (Nat → Int32) → (Nat → Int32) → (Nat → Int32) → (Nat → Int32) → (Nat → Int64) → (Nat → Int32) → Option (Int32 × Int32 × Int32 × Int32 × (Nat → Int32) × (Nat → Int32) × (Nat → Int32) × (Nat → Int32) × (Nat → Int32) × (Nat → Int32) × (Nat → Int64) × (Nat → Int32))) (hk23 : ∀ (x2 : Int32) (x3 : Int32) (v_M_acts : Int32) (v_M_waits : Int32) (v_M_place : Int32) (a_M_held : Nat → Int32) (a_M_wait : Nat → Int32) (a_M_act : Nat → Int32) (a_M_clocks : Nat → Int32) (a_M_counts : Nat → Int32) (a_M_talking : Nat → Int32) (a_M_heap : Nat → Int64) (a_M_refused : Nat → Int32) (H : Heap) (locs : List Loc) (ls : Array Slot) (hl : lv_has ls 9 [(0, .ref q_M), (1, .int x1), (2, .int x2), (3, .int x3)]) (hP : va_P D vwCl (ws_X11_who cI cJ cZ cA q_M q_M_now q_M_held q_M_wait q_M_act q_M_clocks q_M_counts q_M_talking q_M_heap q_M_refused u_M_images u_M_kept u_M_text u_M_size u_M_sign u_M_manyAbove u_M_manyBelow u_M_above u_M_below u_M_at u_M_begin u_M_kind u_M_value u_M_read u_M_most u_M_hasA u_M_hasB u_M_talks u_M_big v_M_acts v_M_waits v_M_place a_M_now a_M_held a_M_wait a_M_act a_M_clocks a_M_counts a_M_talking a_M_heap a_M_refused) H) (hD : va_D A (ws_X11_who cI cJ cZ cA q_M q_M_now q_M_held q_M_wait q_M_act q_M_clocks q_M_counts q_M_talking q_M_heap q_M_refused u_M_images u_M_kept u_M_text u_M_size u_M_sign u_M_manyAbove u_M_manyBelow u_M_above u_M_below u_M_at u_M_begin u_M_kind u_M_value u_M_read u_M_most u_M_hasA u_M_hasB u_M_talks u_M_big v_M_acts v_M_waits v_M_place a_M_now a_M_held a_M_wait a_M_act a_M_clocks a_M_counts a_M_talking a_M_heap a_M_refused)) (hS : va_S A s.heap H locs), k23 x2 x3 v_M_acts v_M_waits v_M_place a_M_held a_M_wait a_M_act a_M_clocks a_M_counts a_M_talking a_M_heap a_M_refused = some o → W p l e rm_X11_who s m args below meth c H locs 0 0 Q (F0 m 23 ls [])) (x3 : Int32) (t0 : Int32) (t1 : Int32) (v_M_acts : Int32) (v_M_waits : Int32) (v_M_place : Int32) (a_M_held : Nat → Int32) (a_M_wait : Nat → Int32) (a_M_act : Nat → Int32) (a_M_clocks : Nat → Int32) (a_M_counts : Nat → Int32) (a_M_talking : Nat → Int32) (a_M_heap : Nat → Int64) (a_M_refused : Nat → Int32) (H : Heap) (locs : List Loc) (ls : Array Slot) (hl : lv_has ls 9 [(0, .ref q_M), (1, .int x1), (3, .int x3)]) (hP : va_P D vwCl (ws_X11_who cI cJ cZ cA q_M q_M_now q_M_held q_M_wait q_M_act q_M_clocks q_M_counts q_M_talking q_M_heap q_M_refused u_M_images u_M_kept u_M_text u_M_size u_M_sign u_M_manyAbove u_M_manyBelow u_M_above u_M_below u_M_at u_M_begin u_M_kind u_M_value u_M_read u_M_most u_M_hasA u_M_hasB u_M_talks u_M_big v_M_acts v_M_waits v_M_place a_M_now a_M_held a_M_wait a_M_act a_M_clocks a_M_counts a_M_talking a_M_heap a_M_refused) H) (hD : va_D A (ws_X11_who cI cJ cZ cA q_M q_M_now q_M_held q_M_wait q_M_act q_M_clocks q_M_counts q_M_talking q_M_heap q_M_refused u_M_images u_M_kept u_M_text u_M_size u_M_sign u_M_manyAbove u_M_manyBelow u_M_above u_M_below u_M_at u_M_begin u_M_kind u_M_value u_M_read u_M_most u_M_hasA u_M_hasB u_M_talks u_M_big v_M_acts v_M_waits v_M_place a_M_now a_M_held a_M_wait a_M_act a_M_clocks a_M_counts a_M_talking a_M_heap a_M_refused)) (hS : va_S A s.heap H locs), g_X11_who_53 a_M_now x1 k23 x3 t0 t1 v_M_acts v_M_waits v_M_place a_M_held a_M_wait a_M_act a_M_clocks a_M_counts a_M_talking a_M_heap a_M_refused = some o → W p l e rm_X11_who s m args below meth c H locs 0 0 Q (F0 m 53 ls [.int t1, .int t0]) := by
    intro k23 hk23 x3 t0 t1 v_M_acts v_M_waits v_M_place a_M_held a_M_wait a_M_act a_M_clocks a_M_counts a_M_talking a_M_heap a_M_refused H locs ls hl hP hD hS hg
    refine lv_ior hx hb dX11_who_53 ?_
    refine lv_istore_n (lv' := [(2, .int (t0 ||| t1)), (0, .ref q_M), (1, .int x1), (3, .int x3)]) hx hb dX11_who_54 rfl hl (by decide) rfl (fun ls hl => ?_)
    refine lv_iinc (k := 3) (v := x3 + 1) (lv' := [(3, .int (x3 + 1)), (2, .int (t0 ||| t1)), (0, .ref q_M), (1, .int x1)]) hx hb dX11_who_55 hl rfl (zinc (by decide)) (by decide) rfl (fun ls hl => ?_)
    refine lv_goto (tgt := 23) hx hb dX11_who_58 (by decide) ?_
    exact hk23 (t0 ||| t1) (x3 + 1) v_M_acts v_M_waits v_M_place a_M_held a_M_wait a_M_act a_M_clocks a_M_counts a_M_talking a_M_heap a_M_refused _ _ _ (lv_sub hl [2, 3, 1, 0] rfl) hP hD hS hg
  have B23 : ∀  (n : Nat) (x2 : Int32) (x3 : Int32) (v_M_acts : Int32) (v_M_waits : Int32) (v_M_place : Int32) (a_M_held : Nat → Int32) (a_M_wait : Nat → Int32) (a_M_act : Nat → Int32) (a_M_clocks : Nat → Int32) (a_M_counts : Nat → Int32) (a_M_talking : Nat → Int32) (a_M_heap : Nat → Int64) (a_M_refused : Nat → Int32) (H : Heap) (locs : List Loc) (ls : Array Slot) (hl : lv_has ls 9 [(0, .ref q_M), (1, .int x1), (2, .int x2), (3, .int x3)]) (hP : va_P D vwCl (ws_X11_who cI cJ cZ cA q_M q_M_now q_M_held q_M_wait q_M_act q_M_clocks q_M_counts q_M_talking q_M_heap q_M_refused u_M_images u_M_kept u_M_text u_M_size u_M_sign u_M_manyAbove u_M_manyBelow u_M_above u_M_below u_M_at u_M_begin u_M_kind u_M_value u_M_read u_M_most u_M_hasA u_M_hasB u_M_talks u_M_big v_M_acts v_M_waits v_M_place a_M_now a_M_held a_M_wait a_M_act a_M_clocks a_M_counts a_M_talking a_M_heap a_M_refused) H) (hD : va_D A (ws_X11_who cI cJ cZ cA q_M q_M_now q_M_held q_M_wait q_M_act q_M_clocks q_M_counts q_M_talking q_M_heap q_M_refused u_M_images u_M_kept u_M_text u_M_size u_M_sign u_M_manyAbove u_M_manyBelow u_M_above u_M_below u_M_at u_M_begin u_M_kind u_M_value u_M_read u_M_most u_M_hasA u_M_hasB u_M_talks u_M_big v_M_acts v_M_waits v_M_place a_M_now a_M_held a_M_wait a_M_act a_M_clocks a_M_counts a_M_talking a_M_heap a_M_refused)) (hS : va_S A s.heap H locs), g_X11_who_23 a_M_now x1 n x2 x3 v_M_acts v_M_waits v_M_place a_M_held a_M_wait a_M_act a_M_clocks a_M_counts a_M_talking a_M_heap a_M_refused = some o → W p l e rm_X11_who s m args below meth c H locs 0 0 Q (F0 m 23 ls []) := by
    intro  n
    induction n with
    | zero => intro x2 x3 v_M_acts v_M_waits v_M_place a_M_held a_M_wait a_M_act a_M_clocks a_M_counts a_M_talking a_M_heap a_M_refused H locs ls hl hP hD hS hg; exact nomatch (show (none : Option (Int32 × Int32 × Int32 × Int32 × (Nat → Int32) × (Nat → Int32) × (Nat → Int32) × (Nat → Int32) × (Nat → Int32) × (Nat → Int32) × (Nat → Int64) × (Nat → Int32))) = some o from hg)
    | succ n ih =>
      intro x2 x3 v_M_acts v_M_waits v_M_place a_M_held a_M_wait a_M_act a_M_clocks a_M_counts a_M_talking a_M_heap a_M_refused H locs ls hl hP hD hS hg
      have hg : g_X11_who_23b a_M_now x1 (g_X11_who_23 a_M_now x1 n) x2 x3 v_M_acts v_M_waits v_M_place a_M_held a_M_wait a_M_act a_M_clocks a_M_counts a_M_talking a_M_heap a_M_refused = some o := hg
      refine lv_iload_n hx hb dX11_who_23 rfl (lv_at hl 3 rfl) ?_
      refine lv_aload_n hx hb dX11_who_24 rfl (lv_at hl 0 rfl) ?_
      refine zget (C := RX11) (T := TX11) (N := 31) S hK hP 0 rfl rfl 0 (Nat.le_of_ble_eq_true rfl) zf_11 zw_149 rfl dX11_who_25 ?_
      refine lv_iconst (v := 3) hx hb dX11_who_28 (by decide) ?_
      refine ziald hx hb hK hP 1 0 rfl rfl (j := 3) (zin (by decide)) (by decide) dX11_who_29 ?_
      refine lv_icmp_ge (tgt := 61) hx hb dX11_who_30 (by decide) (fun h30 => ?_) (fun h30 => ?_)
      · have hg := zp hg h30
        refine lv_iconst (v := 0) hx hb dX11_who_61 (by decide) ?_
        refine lv_istore_n (lv' := [(3, .int 0), (0, .ref q_M), (1, .int x1), (2, .int x2)]) hx hb dX11_who_62 rfl hl (by decide) rfl (fun ls hl => ?_)
        refine lv_iconst (v := (-1)) hx hb dX11_who_63 (by decide) ?_
        refine lv_istore (lv' := [(4, .int (-1)), (3, .int 0), (0, .ref q_M), (1, .int x1), (2, .int x2)]) hx hb dX11_who_64 hl (by decide) rfl (fun ls hl => ?_)
        refine lv_iload_n hx hb dX11_who_66 rfl (lv_at hl 4 rfl) ?_
        refine lv_istore (lv' := [(5, .int x2), (4, .int (-1)), (3, .int 0), (0, .ref q_M), (1, .int x1), (2, .int x2)]) hx hb dX11_who_67 hl (by decide) rfl (fun ls hl => ?_)
        refine lv_iconst (v := 0) hx hb dX11_who_69 (by decide) ?_
        refine lv_istore (lv' := [(6, .int 0), (5, .int x2), (4, .int (-1)), (3, .int 0), (0, .ref q_M), (1, .int x1), (2, .int x2)]) hx hb dX11_who_70 hl (by decide) rfl (fun ls hl => ?_)
        exact B72 zF x2 0 (-1) x2 0 v_M_acts v_M_waits v_M_place a_M_held a_M_wait a_M_act a_M_clocks a_M_counts a_M_talking a_M_heap a_M_refused _ _ _ (lv_sub hl [4, 5, 6, 3, 2, 1, 0] rfl) hP hD hS hg
      · have hg := zn hg h30
        refine lv_iload_n hx hb dX11_who_33 rfl (lv_at hl 2 rfl) ?_
        refine lv_aload_n hx hb dX11_who_34 rfl (lv_at hl 0 rfl) ?_
        refine zget (C := RX11) (T := TX11) (N := 31) S hK hP 0 rfl rfl 0 (Nat.le_of_ble_eq_true rfl) zf_11 zw_149 rfl dX11_who_35 ?_
        refine lv_bipush (v := 18) hx hb dX11_who_38 (by decide) ?_
        refine lv_iload_n hx hb dX11_who_40 rfl (lv_at hl 3 rfl) ?_
        refine lv_iadd hx hb dX11_who_41 ?_
        obtain ⟨h8, hg⟩ := zck hg
        refine ziald hx hb hK hP 1 0 rfl rfl (j := ((18 + x3).toNatClampNeg)) h8 rfl dX11_who_42 ?_
        refine lv_if_ne (tgt := 52) hx hb dX11_who_43 (by decide) (fun h43 => ?_) (fun h43 => ?_)
        · have hg := zn hg h43
          refine lv_iconst (v := 0) hx hb dX11_who_52 (by decide) ?_
          exact B53 (g_X11_who_23 a_M_now x1 n) ih x3 x2 0 v_M_acts v_M_waits v_M_place a_M_held a_M_wait a_M_act a_M_clocks a_M_counts a_M_talking a_M_heap a_M_refused _ _ _ (lv_sub hl [0, 1, 3] rfl) hP hD hS hg
        · have hg := zp hg h43
          refine lv_iconst (v := 1) hx hb dX11_who_46 (by decide) ?_
          refine lv_iload_n hx hb dX11_who_47 rfl (lv_at hl 3 rfl) ?_
          refine lv_ishl hx hb dX11_who_48 ?_
          refine lv_goto (tgt := 53) hx hb dX11_who_49 (by decide) ?_
          exact B53 (g_X11_who_23 a_M_now x1 n) ih x3 x2 (1 <<< (x3 &&& 31)) v_M_acts v_M_waits v_M_place a_M_held a_M_wait a_M_act a_M_clocks a_M_counts a_M_talking a_M_heap a_M_refused _ _ _ (lv_sub hl [0, 1, 3] rfl) hP hD hS hg
  refine lv_iload_n hx hb dX11_who_0 rfl (lv_at hl 1 rfl) ?_
  refine lv_i2l hx hb dX11_who_1 rfl ?_
  refine lv_lconst (v := 0) hx hb dX11_who_2 (by decide) ?_
  refine lv_ldc2 (v := 2) hx hb S.2.2.2.1 (ht _ zw_293) dX11_who_3 ?_
  obtain ⟨v1, hc2, hg⟩ := zbd hg
  refine zcallS (rest := []) S (c_X11_in l D cI cJ cZ cA ga x1.toInt64 (0 : Int64) (2 : Int64) v1 hc2) (zgS zw_220 zw_221 zw_5 zw_222) rfl hd_X11_in ⟨rfl, rfl⟩ ⟨Nat.le_of_ble_eq_true rfl, Nat.le_of_ble_eq_true rfl⟩ rfl hl.1 rfl (Nat.le_of_ble_eq_true rfl) dX11_who_6 hP hD hS hA hK hG (isC := []) rfl (by decide +kernel) rfl ⟨Nat.zero_le _, Nat.zero_le _⟩ (pl := [none, none, none, none, none, none, none, none, none, none]) (nw := 10) rfl (by decide +kernel) (w2 := (ws_X11_who cI cJ cZ cA q_M q_M_now q_M_held q_M_wait q_M_act q_M_clocks q_M_counts q_M_talking q_M_heap q_M_refused u_M_images u_M_kept u_M_text u_M_size u_M_sign u_M_manyAbove u_M_manyBelow u_M_above u_M_below u_M_at u_M_begin u_M_kind u_M_value u_M_read u_M_most u_M_hasA u_M_hasB u_M_talks u_M_big v_M_acts v_M_waits v_M_place a_M_now a_M_held a_M_wait a_M_act a_M_clocks a_M_counts a_M_talking a_M_heap a_M_refused)) rfl (st1 := [.int v1]) rfl (fun H locs hP hD hS => ?_)
  refine lv_if_ne (tgt := 19) hx hb dX11_who_9 (by decide) (fun h9 => ?_) (fun h9 => ?_)
  · have hg := zn hg h9
    refine lv_iconst (v := 0) hx hb dX11_who_19 (by decide) ?_
    refine lv_istore_n (lv' := [(2, .int 0), (0, .ref q_M), (1, .int x1)]) hx hb dX11_who_20 rfl hl (by decide) rfl (fun ls hl => ?_)
    refine lv_iconst (v := 0) hx hb dX11_who_21 (by decide) ?_
    refine lv_istore_n (lv' := [(3, .int 0), (2, .int 0), (0, .ref q_M), (1, .int x1)]) hx hb dX11_who_22 rfl hl (by decide) rfl (fun ls hl => ?_)
    exact B23 zF 0 0 v_M_acts v_M_waits v_M_place a_M_held a_M_wait a_M_act a_M_clocks a_M_counts a_M_talking a_M_heap a_M_refused _ _ _ (lv_sub hl [2, 3, 1, 0] rfl) hP hD hS hg
  · have hg := zp hg h9
    refine lv_aload_n hx hb dX11_who_12 rfl (lv_at hl 0 rfl) ?_
    refine lv_bipush (v := (-2)) hx hb dX11_who_13 (by decide) ?_
    obtain ⟨v9, hc10, hg⟩ := zbd hg
    refine zcallV (rest := []) S (c_X11_refuse l D cI cJ cZ cA ga q_M q_M_refused (.ref q_M_now) u_M_images u_M_kept u_M_text u_M_size u_M_sign u_M_manyAbove u_M_manyBelow u_M_above u_M_below u_M_at u_M_begin u_M_kind u_M_value u_M_read (.int v_M_acts) (.ref q_M_act) (.int v_M_waits) (.ref q_M_wait) (.ref q_M_held) (.int v_M_place) (.ref q_M_heap) (.ref q_M_clocks) (.ref q_M_counts) (.ref q_M_talking) u_M_most u_M_hasA u_M_hasB u_M_talks u_M_big a_M_refused (-2) v9 hc10) (zgV zw_223 zw_224 zw_225 zw_5 zw_226) rfl hd_X11_refuse ⟨rfl, rfl⟩ ⟨Nat.le_of_ble_eq_true rfl, Nat.le_of_ble_eq_true rfl⟩ 0 11 rfl rfl rfl hl.1 rfl (Nat.le_of_ble_eq_true rfl) dX11_who_15 hP hD hS hA hK hG (isC := [0, 9]) rfl (by decide +kernel) rfl ⟨Nat.zero_le _, Nat.zero_le _⟩ (pl := [some 0, none, none, none, none, none, none, none, none, some 1]) (nw := 10) rfl (by decide +kernel) (w2 := (ws_X11_who cI cJ cZ cA q_M q_M_now q_M_held q_M_wait q_M_act q_M_clocks q_M_counts q_M_talking q_M_heap q_M_refused u_M_images u_M_kept u_M_text u_M_size u_M_sign u_M_manyAbove u_M_manyBelow u_M_above u_M_below u_M_at u_M_begin u_M_kind u_M_value u_M_read u_M_most u_M_hasA u_M_hasB u_M_talks u_M_big v_M_acts v_M_waits v_M_place a_M_now a_M_held a_M_wait a_M_act a_M_clocks a_M_counts a_M_talking a_M_heap v9.2)) rfl (st1 := [.int v9.1]) rfl (fun H locs hP hD hS => ?_)
    exact hret v9.1 v_M_acts v_M_waits v_M_place a_M_held a_M_wait a_M_act a_M_clocks a_M_counts a_M_talking a_M_heap v9.2 hg _ _ _ _ hP hS dX11_who_18

/-! SpokenClockModel.sign(I)I -/
abbrev ws_X11_sign (cI cJ cZ cA : ClassId) (q_M q_M_refused : Nat) (u_M_now : Value) (u_M_images : Value) (u_M_kept : Value) (u_M_text : Value) (u_M_size : Value) (u_M_above : Value) (u_M_below : Value) (u_M_at : Value) (u_M_begin : Value) (u_M_kind : Value) (u_M_value : Value) (u_M_read : Value) (u_M_acts : Value) (u_M_act : Value) (u_M_waits : Value) (u_M_wait : Value) (u_M_held : Value) (u_M_place : Value) (u_M_heap : Value) (u_M_clocks : Value) (u_M_counts : Value) (u_M_talking : Value) (u_M_most : Value) (u_M_hasA : Value) (u_M_hasB : Value) (u_M_talks : Value) (u_M_big : Value) (v_M_sign : Int32) (v_M_manyAbove : Int32) (v_M_manyBelow : Int32) (a_M_refused : Nat → Int32) : va_W := [(q_M, .inr (11, [u_M_now, u_M_images, u_M_kept, u_M_text, u_M_size, .int v_M_sign, .int v_M_manyAbove, .int v_M_manyBelow, u_M_above, u_M_below, .ref q_M_refused, u_M_at, u_M_begin, u_M_kind, u_M_value, u_M_read, u_M_acts, u_M_act, u_M_waits, u_M_wait, u_M_held, u_M_place, u_M_heap, u_M_clocks, u_M_counts, u_M_talking, u_M_most, u_M_hasA, u_M_hasB, u_M_talks, u_M_big])), (q_M_refused, .inl (cI, 3, .inl a_M_refused))]
abbrev rm_X11_sign : Room := { frames := 1, cells := 0, slots := 0, locals := 21 }
def g_X11_sign (v_M_sign : Int32) (v_M_manyAbove : Int32) (v_M_manyBelow : Int32) (x1 : Int32) (a_M_refused : Nat → Int32) : Option (Int32 × (Nat → Int32)) :=
  if x1 = 0 then (
    some (v_M_sign, a_M_refused)
  ) else (
    if x1 = 1 then (
      some (v_M_manyAbove, a_M_refused)
    ) else (
      if x1 = 2 then (
        some (v_M_manyBelow, a_M_refused)
      ) else (
        (g_X11_refuse (-2) a_M_refused).bind fun v1 =>
        some (v1.1, v1.2)
      )
    )
  )
theorem hd_X11_sign : yX11_sign.cls = RX11 ∧ yX11_sign.cls ≠ "java/lang/invoke/MethodHandle" ∧ yX11_sign.cls ≠ "java/lang/invoke/VarHandle" ∧ (parseMethodDescriptor yX11_sign.desc).map (fun d => d.parameters.length) = some 1 := by decide +kernel
set_option maxHeartbeats 4000000 in
set_option maxRecDepth 100000 in
theorem c_X11_sign (l : Launch) (D : va_G) (cI cJ cZ cA : ClassId) (ga : Nat → Nat) (q_M q_M_refused : Nat) (u_M_now : Value) (u_M_images : Value) (u_M_kept : Value) (u_M_text : Value) (u_M_size : Value) (u_M_above : Value) (u_M_below : Value) (u_M_at : Value) (u_M_begin : Value) (u_M_kind : Value) (u_M_value : Value) (u_M_read : Value) (u_M_acts : Value) (u_M_act : Value) (u_M_waits : Value) (u_M_wait : Value) (u_M_held : Value) (u_M_place : Value) (u_M_heap : Value) (u_M_clocks : Value) (u_M_counts : Value) (u_M_talking : Value) (u_M_most : Value) (u_M_hasA : Value) (u_M_hasB : Value) (u_M_talks : Value) (u_M_big : Value) (v_M_sign : Int32) (v_M_manyAbove : Int32) (v_M_manyBelow : Int32) (a_M_refused : Nat → Int32) (x1 : Int32) (o : Int32 × (Nat → Int32)) (hg : g_X11_sign v_M_sign v_M_manyAbove v_M_manyBelow x1 a_M_refused = some o) : zM l yX11_sign (Cond.code yX11_sign cX11_sign 2 (some .int) :: wsL_law) rm_X11_sign D (zTy cI cJ cZ cA) ga [.ref q_M, .int x1] (ws_X11_sign cI cJ cZ cA q_M q_M_refused u_M_now u_M_images u_M_kept u_M_text u_M_size u_M_above u_M_below u_M_at u_M_begin u_M_kind u_M_value u_M_read u_M_acts u_M_act u_M_waits u_M_wait u_M_held u_M_place u_M_heap u_M_clocks u_M_counts u_M_talking u_M_most u_M_hasA u_M_hasB u_M_talks u_M_big v_M_sign v_M_manyAbove v_M_manyBelow a_M_refused) (ws_X11_sign cI cJ cZ cA q_M q_M_refused u_M_now u_M_images u_M_kept u_M_text u_M_size u_M_above u_M_below u_M_at u_M_begin u_M_kind u_M_value u_M_read u_M_acts u_M_act u_M_waits u_M_wait u_M_held u_M_place u_M_heap u_M_clocks u_M_counts u_M_talking u_M_most u_M_hasA u_M_hasB u_M_talks u_M_big v_M_sign v_M_manyAbove v_M_manyBelow o.2) (some (.int o.1)) := by
  refine zenterI (own := RX11) (by decide) rfl rfl (Nat.le_of_ble_eq_true rfl) ?_
  intro p e s m args below meth c A ls Q S hA hK hG hl hP hD hS hret0
  have hx := S.1
  have hb := S.2.1
  have ht : ∀ w, w ∈ wsL_law → w.before args s = true := fun w h => S.2.2.2.2 w (List.mem_cons_of_mem _ h)
  have hret : ∀ (r9 : Int32) (a_M_refused : Nat → Int32), (some (r9, a_M_refused) : Option (Int32 × (Nat → Int32))) = some o → ∀ (H : Heap) (locs : List Loc) (pc : Nat) (ls : Array Slot), va_P D vwCl (ws_X11_sign cI cJ cZ cA q_M q_M_refused u_M_now u_M_images u_M_kept u_M_text u_M_size u_M_above u_M_below u_M_at u_M_begin u_M_kind u_M_value u_M_read u_M_acts u_M_act u_M_waits u_M_wait u_M_held u_M_place u_M_heap u_M_clocks u_M_counts u_M_talking u_M_most u_M_hasA u_M_hasB u_M_talks u_M_big v_M_sign v_M_manyAbove v_M_manyBelow a_M_refused) H → va_S A s.heap H locs → decode cX11_sign pc = .ok (.ireturn, 1) → W p l e rm_X11_sign s m args below meth c H locs 0 0 Q (F0 m pc ls [.int r9]) := by
    intro r9 a_M_refused he; cases he; exact hret0
  have hl : lv_has ls 2 [(0, .ref q_M), (1, .int x1)] := hl
  refine lv_iload_n hx hb dX11_sign_0 rfl (lv_at hl 1 rfl) ?_
  refine lv_if_ne (tgt := 11) hx hb dX11_sign_1 (by decide) (fun h1 => ?_) (fun h1 => ?_)
  · have hg := zn hg h1
    refine lv_iload_n hx hb dX11_sign_11 rfl (lv_at hl 1 rfl) ?_
    refine lv_iconst (v := 1) hx hb dX11_sign_12 (by decide) ?_
    refine lv_icmp_ne (tgt := 23) hx hb dX11_sign_13 (by decide) (fun h13 => ?_) (fun h13 => ?_)
    · have hg := zn hg h13
      refine lv_iload_n hx hb dX11_sign_23 rfl (lv_at hl 1 rfl) ?_
      refine lv_iconst (v := 2) hx hb dX11_sign_24 (by decide) ?_
      refine lv_icmp_ne (tgt := 35) hx hb dX11_sign_25 (by decide) (fun h25 => ?_) (fun h25 => ?_)
      · have hg := zn hg h25
        refine lv_aload_n hx hb dX11_sign_35 rfl (lv_at hl 0 rfl) ?_
        refine lv_bipush (v := (-2)) hx hb dX11_sign_36 (by decide) ?_
        obtain ⟨v1, hc2, hg⟩ := zbd hg
        refine zcallV (rest := []) S (c_X11_refuse l D cI cJ cZ cA ga q_M q_M_refused u_M_now u_M_images u_M_kept u_M_text u_M_size (.int v_M_sign) (.int v_M_manyAbove) (.int v_M_manyBelow) u_M_above u_M_below u_M_at u_M_begin u_M_kind u_M_value u_M_read u_M_acts u_M_act u_M_waits u_M_wait u_M_held u_M_place u_M_heap u_M_clocks u_M_counts u_M_talking u_M_most u_M_hasA u_M_hasB u_M_talks u_M_big a_M_refused (-2) v1 hc2) (zgV zw_223 zw_224 zw_225 zw_5 zw_226) rfl hd_X11_refuse ⟨rfl, rfl⟩ ⟨Nat.le_of_ble_eq_true rfl, Nat.le_of_ble_eq_true rfl⟩ 0 11 rfl rfl rfl hl.1 rfl (Nat.le_of_ble_eq_true rfl) dX11_sign_38 hP hD hS hA hK hG (isC := [0, 1]) rfl (by decide +kernel) rfl ⟨Nat.zero_le _, Nat.zero_le _⟩ (pl := [some 0, some 1]) (nw := 2) rfl (by decide +kernel) (w2 := (ws_X11_sign cI cJ cZ cA q_M q_M_refused u_M_now u_M_images u_M_kept u_M_text u_M_size u_M_above u_M_below u_M_at u_M_begin u_M_kind u_M_value u_M_read u_M_acts u_M_act u_M_waits u_M_wait u_M_held u_M_place u_M_heap u_M_clocks u_M_counts u_M_talking u_M_most u_M_hasA u_M_hasB u_M_talks u_M_big v_M_sign v_M_manyAbove v_M_manyBelow v1.2)) rfl (st1 := [.int v1.1]) rfl (fun H locs hP hD hS => ?_)
        exact hret v1.1 v1.2 hg _ _ _ _ hP hS dX11_sign_41
      · have hg := zp hg h25
        refine lv_aload_n hx hb dX11_sign_28 rfl (lv_at hl 0 rfl) ?_
        refine zget (C := RX11) (T := TX11) (N := 31) S hK hP 0 rfl rfl 7 (Nat.le_of_ble_eq_true rfl) zf_11 zw_153 rfl dX11_sign_29 ?_
        refine lv_goto (tgt := 41) hx hb dX11_sign_32 (by decide) ?_
        exact hret v_M_manyBelow a_M_refused hg _ _ _ _ hP hS dX11_sign_41
    · have hg := zp hg h13
      refine lv_aload_n hx hb dX11_sign_16 rfl (lv_at hl 0 rfl) ?_
      refine zget (C := RX11) (T := TX11) (N := 31) S hK hP 0 rfl rfl 6 (Nat.le_of_ble_eq_true rfl) zf_11 zw_920 rfl dX11_sign_17 ?_
      refine lv_goto (tgt := 41) hx hb dX11_sign_20 (by decide) ?_
      exact hret v_M_manyAbove a_M_refused hg _ _ _ _ hP hS dX11_sign_41
  · have hg := zp hg h1
    refine lv_aload_n hx hb dX11_sign_4 rfl (lv_at hl 0 rfl) ?_
    refine zget (C := RX11) (T := TX11) (N := 31) S hK hP 0 rfl rfl 5 (Nat.le_of_ble_eq_true rfl) zf_11 zw_921 rfl dX11_sign_5 ?_
    refine lv_goto (tgt := 41) hx hb dX11_sign_8 (by decide) ?_
    exact hret v_M_sign a_M_refused hg _ _ _ _ hP hS dX11_sign_41

/-! SpokenClockModel.limb(II)I -/
abbrev ws_X11_limb (cI cJ cZ cA : ClassId) (q_M q_M_refused q_M_below q_M_above : Nat) (u_M_now : Value) (u_M_images : Value) (u_M_kept : Value) (u_M_text : Value) (u_M_size : Value) (u_M_sign : Value) (u_M_at : Value) (u_M_begin : Value) (u_M_kind : Value) (u_M_value : Value) (u_M_read : Value) (u_M_acts : Value) (u_M_act : Value) (u_M_waits : Value) (u_M_wait : Value) (u_M_held : Value) (u_M_place : Value) (u_M_heap : Value) (u_M_clocks : Value) (u_M_counts : Value) (u_M_talking : Value) (u_M_most : Value) (u_M_hasA : Value) (u_M_hasB : Value) (u_M_talks : Value) (u_M_big : Value) (v_M_manyAbove : Int32) (v_M_manyBelow : Int32) (a_M_refused : Nat → Int32) (a_M_below : Nat → Int32) (a_M_above : Nat → Int32) : va_W := [(q_M, .inr (11, [u_M_now, u_M_images, u_M_kept, u_M_text, u_M_size, u_M_sign, .int v_M_manyAbove, .int v_M_manyBelow, .ref q_M_above, .ref q_M_below, .ref q_M_refused, u_M_at, u_M_begin, u_M_kind, u_M_value, u_M_read, u_M_acts, u_M_act, u_M_waits, u_M_wait, u_M_held, u_M_place, u_M_heap, u_M_clocks, u_M_counts, u_M_talking, u_M_most, u_M_hasA, u_M_hasB, u_M_talks, u_M_big])), (q_M_refused, .inl (cI, 3, .inl a_M_refused)), (q_M_below, .inl (cI, 8, .inl a_M_below)), (q_M_above, .inl (cI, 8, .inl a_M_above))]
abbrev rm_X11_limb : Room := { frames := 1, cells := 0, slots := 0, locals := 25 }
def g_X11_limb_14 (v_M_manyAbove : Int32) (v_M_manyBelow : Int32) (a_M_below : Nat → Int32) (a_M_above : Nat → Int32) (x1 : Int32) (x2 : Int32) (a_M_refused : Nat → Int32) : Option (Int32 × (Nat → Int32)) :=
  (g_X11_refuse (-2) a_M_refused).bind fun v3 =>
  some (v3.1, v3.2)
def g_X11_limb_37 (v_M_manyAbove : Int32) (v_M_manyBelow : Int32) (a_M_below : Nat → Int32) (a_M_above : Nat → Int32) (x1 : Int32) (x2 : Int32) (t0 : Int32) (t1 : Int32) (a_M_refused : Nat → Int32) : Option (Int32 × (Nat → Int32)) :=
  if t0 < t1 then (
    if x1 = 0 then (
      if x2 < 0 ∨ 8 ≤ x2.toNatClampNeg then none else
      some (a_M_above (x2.toNatClampNeg), a_M_refused)
    ) else (
      if x2 < 0 ∨ 8 ≤ x2.toNatClampNeg then none else
      some (a_M_below (x2.toNatClampNeg), a_M_refused)
    )
  ) else (
    some ((-1), a_M_refused)
  )
def g_X11_limb (v_M_manyAbove : Int32) (v_M_manyBelow : Int32) (a_M_below : Nat → Int32) (a_M_above : Nat → Int32) (x1 : Int32) (x2 : Int32) (a_M_refused : Nat → Int32) : Option (Int32 × (Nat → Int32)) :=
  (g_X11_in x1.toInt64 (0 : Int64) (1 : Int64)).bind fun v1 =>
  if v1 = 0 then (
    g_X11_limb_14 v_M_manyAbove v_M_manyBelow a_M_below a_M_above x1 x2 a_M_refused
  ) else (
    if 0 ≤ x2 then (
      if x1 = 0 then (
        g_X11_limb_37 v_M_manyAbove v_M_manyBelow a_M_below a_M_above x1 x2 x2 v_M_manyAbove a_M_refused
      ) else (
        g_X11_limb_37 v_M_manyAbove v_M_manyBelow a_M_below a_M_above x1 x2 x2 v_M_manyBelow a_M_refused
      )
    ) else (
      g_X11_limb_14 v_M_manyAbove v_M_manyBelow a_M_below a_M_above x1 x2 a_M_refused
    )
  )
theorem hd_X11_limb : yX11_limb.cls = RX11 ∧ yX11_limb.cls ≠ "java/lang/invoke/MethodHandle" ∧ yX11_limb.cls ≠ "java/lang/invoke/VarHandle" ∧ (parseMethodDescriptor yX11_limb.desc).map (fun d => d.parameters.length) = some 2 := by decide +kernel
set_option maxHeartbeats 4000000 in
set_option maxRecDepth 100000 in
theorem c_X11_limb (l : Launch) (D : va_G) (cI cJ cZ cA : ClassId) (ga : Nat → Nat) (q_M q_M_refused q_M_below q_M_above : Nat) (u_M_now : Value) (u_M_images : Value) (u_M_kept : Value) (u_M_text : Value) (u_M_size : Value) (u_M_sign : Value) (u_M_at : Value) (u_M_begin : Value) (u_M_kind : Value) (u_M_value : Value) (u_M_read : Value) (u_M_acts : Value) (u_M_act : Value) (u_M_waits : Value) (u_M_wait : Value) (u_M_held : Value) (u_M_place : Value) (u_M_heap : Value) (u_M_clocks : Value) (u_M_counts : Value) (u_M_talking : Value) (u_M_most : Value) (u_M_hasA : Value) (u_M_hasB : Value) (u_M_talks : Value) (u_M_big : Value) (v_M_manyAbove : Int32) (v_M_manyBelow : Int32) (a_M_refused : Nat → Int32) (a_M_below : Nat → Int32) (a_M_above : Nat → Int32) (x1 : Int32) (x2 : Int32) (o : Int32 × (Nat → Int32)) (hg : g_X11_limb v_M_manyAbove v_M_manyBelow a_M_below a_M_above x1 x2 a_M_refused = some o) : zM l yX11_limb (Cond.code yX11_limb cX11_limb 3 (some .int) :: wsL_law) rm_X11_limb D (zTy cI cJ cZ cA) ga [.ref q_M, .int x1, .int x2] (ws_X11_limb cI cJ cZ cA q_M q_M_refused q_M_below q_M_above u_M_now u_M_images u_M_kept u_M_text u_M_size u_M_sign u_M_at u_M_begin u_M_kind u_M_value u_M_read u_M_acts u_M_act u_M_waits u_M_wait u_M_held u_M_place u_M_heap u_M_clocks u_M_counts u_M_talking u_M_most u_M_hasA u_M_hasB u_M_talks u_M_big v_M_manyAbove v_M_manyBelow a_M_refused a_M_below a_M_above) (ws_X11_limb cI cJ cZ cA q_M q_M_refused q_M_below q_M_above u_M_now u_M_images u_M_kept u_M_text u_M_size u_M_sign u_M_at u_M_begin u_M_kind u_M_value u_M_read u_M_acts u_M_act u_M_waits u_M_wait u_M_held u_M_place u_M_heap u_M_clocks u_M_counts u_M_talking u_M_most u_M_hasA u_M_hasB u_M_talks u_M_big v_M_manyAbove v_M_manyBelow o.2 a_M_below a_M_above) (some (.int o.1)) := by
  refine zenterI (own := RX11) (by decide) rfl rfl (Nat.le_of_ble_eq_true rfl) ?_
  intro p e s m args below meth c A ls Q S hA hK hG hl hP hD hS hret0
  have hx := S.1
  have hb := S.2.1
  have ht : ∀ w, w ∈ wsL_law → w.before args s = true := fun w h => S.2.2.2.2 w (List.mem_cons_of_mem _ h)
  have hret : ∀ (r9 : Int32) (a_M_refused : Nat → Int32), (some (r9, a_M_refused) : Option (Int32 × (Nat → Int32))) = some o → ∀ (H : Heap) (locs : List Loc) (pc : Nat) (ls : Array Slot), va_P D vwCl (ws_X11_limb cI cJ cZ cA q_M q_M_refused q_M_below q_M_above u_M_now u_M_images u_M_kept u_M_text u_M_size u_M_sign u_M_at u_M_begin u_M_kind u_M_value u_M_read u_M_acts u_M_act u_M_waits u_M_wait u_M_held u_M_place u_M_heap u_M_clocks u_M_counts u_M_talking u_M_most u_M_hasA u_M_hasB u_M_talks u_M_big v_M_manyAbove v_M_manyBelow a_M_refused a_M_below a_M_above) H → va_S A s.heap H locs → decode cX11_limb pc = .ok (.ireturn, 1) → W p l e rm_X11_limb s m args below meth c H locs 0 0 Q (F0 m pc ls [.int r9]) := by
    intro r9 a_M_refused he; cases he; exact hret0
  have hl : lv_has ls 3 [(0, .ref q_M), (1, .int x1), (2, .int x2)] := hl
  have B14 : ∀ (a_M_refused : Nat → Int32) (H : Heap) (locs : List Loc) (ls : Array Slot) (hl : lv_has ls 3 [(0, .ref q_M)]) (hP : va_P D vwCl (ws_X11_limb cI cJ cZ cA q_M q_M_refused q_M_below q_M_above u_M_now u_M_images u_M_kept u_M_text u_M_size u_M_sign u_M_at u_M_begin u_M_kind u_M_value u_M_read u_M_acts u_M_act u_M_waits u_M_wait u_M_held u_M_place u_M_heap u_M_clocks u_M_counts u_M_talking u_M_most u_M_hasA u_M_hasB u_M_talks u_M_big v_M_manyAbove v_M_manyBelow a_M_refused a_M_below a_M_above) H) (hD : va_D A (ws_X11_limb cI cJ cZ cA q_M q_M_refused q_M_below q_M_above u_M_now u_M_images u_M_kept u_M_text u_M_size u_M_sign u_M_at u_M_begin u_M_kind u_M_value u_M_read u_M_acts u_M_act u_M_waits u_M_wait u_M_held u_M_place u_M_heap u_M_clocks u_M_counts u_M_talking u_M_most u_M_hasA u_M_hasB u_M_talks u_M_big v_M_manyAbove v_M_manyBelow a_M_refused a_M_below a_M_above)) (hS : va_S A s.heap H locs), g_X11_limb_14 v_M_manyAbove v_M_manyBelow a_M_below a_M_above x1 x2 a_M_refused = some o → W p l e rm_X11_limb s m args below meth c H locs 0 0 Q (F0 m 14 ls []) := by
    intro  a_M_refused H locs ls hl hP hD hS hg
    refine lv_aload_n hx hb dX11_limb_14 rfl (lv_at hl 0 rfl) ?_
    refine lv_bipush (v := (-2)) hx hb dX11_limb_15 (by decide) ?_
    obtain ⟨v3, hc4, hg⟩ := zbd hg
    refine zcallV (rest := []) S (c_X11_refuse l D cI cJ cZ cA ga q_M q_M_refused u_M_now u_M_images u_M_kept u_M_text u_M_size u_M_sign (.int v_M_manyAbove) (.int v_M_manyBelow) (.ref q_M_above) (.ref q_M_below) u_M_at u_M_begin u_M_kind u_M_value u_M_read u_M_acts u_M_act u_M_waits u_M_wait u_M_held u_M_place u_M_heap u_M_clocks u_M_counts u_M_talking u_M_most u_M_hasA u_M_hasB u_M_talks u_M_big a_M_refused (-2) v3 hc4) (zgV zw_223 zw_224 zw_225 zw_5 zw_226) rfl hd_X11_refuse ⟨rfl, rfl⟩ ⟨Nat.le_of_ble_eq_true rfl, Nat.le_of_ble_eq_true rfl⟩ 0 11 rfl rfl rfl hl.1 rfl (Nat.le_of_ble_eq_true rfl) dX11_limb_17 hP hD hS hA hK hG (isC := [0, 1]) rfl (by decide +kernel) rfl ⟨Nat.zero_le _, Nat.zero_le _⟩ (pl := [some 0, some 1, none, none]) (nw := 4) rfl (by decide +kernel) (w2 := (ws_X11_limb cI cJ cZ cA q_M q_M_refused q_M_below q_M_above u_M_now u_M_images u_M_kept u_M_text u_M_size u_M_sign u_M_at u_M_begin u_M_kind u_M_value u_M_read u_M_acts u_M_act u_M_waits u_M_wait u_M_held u_M_place u_M_heap u_M_clocks u_M_counts u_M_talking u_M_most u_M_hasA u_M_hasB u_M_talks u_M_big v_M_manyAbove v_M_manyBelow v3.2 a_M_below a_M_above)) rfl (st1 := [.int v3.1]) rfl (fun H locs hP hD hS => ?_)
    exact hret v3.1 v3.2 hg _ _ _ _ hP hS dX11_limb_20
  have B37 : ∀ (t0 : Int32) (t1 : Int32) (a_M_refused : Nat → Int32) (H : Heap) (locs : List Loc) (ls : Array Slot) (hl : lv_has ls 3 [(0, .ref q_M), (1, .int x1), (2, .int x2)]) (hP : va_P D vwCl (ws_X11_limb cI cJ cZ cA q_M q_M_refused q_M_below q_M_above u_M_now u_M_images u_M_kept u_M_text u_M_size u_M_sign u_M_at u_M_begin u_M_kind u_M_value u_M_read u_M_acts u_M_act u_M_waits u_M_wait u_M_held u_M_place u_M_heap u_M_clocks u_M_counts u_M_talking u_M_most u_M_hasA u_M_hasB u_M_talks u_M_big v_M_manyAbove v_M_manyBelow a_M_refused a_M_below a_M_above) H) (hD : va_D A (ws_X11_limb cI cJ cZ cA q_M q_M_refused q_M_below q_M_above u_M_now u_M_images u_M_kept u_M_text u_M_size u_M_sign u_M_at u_M_begin u_M_kind u_M_value u_M_read u_M_acts u_M_act u_M_waits u_M_wait u_M_held u_M_place u_M_heap u_M_clocks u_M_counts u_M_talking u_M_most u_M_hasA u_M_hasB u_M_talks u_M_big v_M_manyAbove v_M_manyBelow a_M_refused a_M_below a_M_above)) (hS : va_S A s.heap H locs), g_X11_limb_37 v_M_manyAbove v_M_manyBelow a_M_below a_M_above x1 x2 t0 t1 a_M_refused = some o → W p l e rm_X11_limb s m args below meth c H locs 0 0 Q (F0 m 37 ls [.int t1, .int t0]) := by
    intro  t0 t1 a_M_refused H locs ls hl hP hD hS hg
    refine lv_icmp_lt (tgt := 44) hx hb dX11_limb_37 (by decide) (fun h37 => ?_) (fun h37 => ?_)
    · have hg := zp hg h37
      refine lv_iload_n hx hb dX11_limb_44 rfl (lv_at hl 1 rfl) ?_
      refine lv_if_ne (tgt := 57) hx hb dX11_limb_45 (by decide) (fun h45 => ?_) (fun h45 => ?_)
      · have hg := zn hg h45
        refine lv_aload_n hx hb dX11_limb_57 rfl (lv_at hl 0 rfl) ?_
        refine zget (C := RX11) (T := TX11) (N := 31) S hK hP 0 rfl rfl 9 (Nat.le_of_ble_eq_true rfl) zf_11 zw_155 rfl dX11_limb_58 ?_
        refine lv_iload_n hx hb dX11_limb_61 rfl (lv_at hl 2 rfl) ?_
        obtain ⟨h5, hg⟩ := zck hg
        refine ziald hx hb hK hP 2 0 rfl rfl (j := (x2.toNatClampNeg)) h5 rfl dX11_limb_62 ?_
        exact hret (a_M_below (x2.toNatClampNeg)) a_M_refused hg _ _ _ _ hP hS dX11_limb_63
      · have hg := zp hg h45
        refine lv_aload_n hx hb dX11_limb_48 rfl (lv_at hl 0 rfl) ?_
        refine zget (C := RX11) (T := TX11) (N := 31) S hK hP 0 rfl rfl 8 (Nat.le_of_ble_eq_true rfl) zf_11 zw_154 rfl dX11_limb_49 ?_
        refine lv_iload_n hx hb dX11_limb_52 rfl (lv_at hl 2 rfl) ?_
        obtain ⟨h6, hg⟩ := zck hg
        refine ziald hx hb hK hP 3 0 rfl rfl (j := (x2.toNatClampNeg)) h6 rfl dX11_limb_53 ?_
        refine lv_goto (tgt := 63) hx hb dX11_limb_54 (by decide) ?_
        exact hret (a_M_above (x2.toNatClampNeg)) a_M_refused hg _ _ _ _ hP hS dX11_limb_63
    · have hg := zn hg h37
      refine lv_iconst (v := (-1)) hx hb dX11_limb_40 (by decide) ?_
      refine lv_goto (tgt := 63) hx hb dX11_limb_41 (by decide) ?_
      exact hret (-1) a_M_refused hg _ _ _ _ hP hS dX11_limb_63
  refine lv_iload_n hx hb dX11_limb_0 rfl (lv_at hl 1 rfl) ?_
  refine lv_i2l hx hb dX11_limb_1 rfl ?_
  refine lv_lconst (v := 0) hx hb dX11_limb_2 (by decide) ?_
  refine lv_lconst (v := 1) hx hb dX11_limb_3 (by decide) ?_
  obtain ⟨v1, hc2, hg⟩ := zbd hg
  refine zcallS (rest := []) S (c_X11_in l D cI cJ cZ cA ga x1.toInt64 (0 : Int64) (1 : Int64) v1 hc2) (zgS zw_220 zw_221 zw_5 zw_222) rfl hd_X11_in ⟨rfl, rfl⟩ ⟨Nat.le_of_ble_eq_true rfl, Nat.le_of_ble_eq_true rfl⟩ rfl hl.1 rfl (Nat.le_of_ble_eq_true rfl) dX11_limb_4 hP hD hS hA hK hG (isC := []) rfl (by decide +kernel) rfl ⟨Nat.zero_le _, Nat.zero_le _⟩ (pl := [none, none, none, none]) (nw := 4) rfl (by decide +kernel) (w2 := (ws_X11_limb cI cJ cZ cA q_M q_M_refused q_M_below q_M_above u_M_now u_M_images u_M_kept u_M_text u_M_size u_M_sign u_M_at u_M_begin u_M_kind u_M_value u_M_read u_M_acts u_M_act u_M_waits u_M_wait u_M_held u_M_place u_M_heap u_M_clocks u_M_counts u_M_talking u_M_most u_M_hasA u_M_hasB u_M_talks u_M_big v_M_manyAbove v_M_manyBelow a_M_refused a_M_below a_M_above)) rfl (st1 := [.int v1]) rfl (fun H locs hP hD hS => ?_)
  refine lv_if_eq (tgt := 14) hx hb dX11_limb_7 (by decide) (fun h7 => ?_) (fun h7 => ?_)
  · have hg := zp hg h7
    exact B14 a_M_refused _ _ _ (lv_sub hl [0] rfl) hP hD hS hg
  · have hg := zn hg h7
    refine lv_iload_n hx hb dX11_limb_10 rfl (lv_at hl 2 rfl) ?_
    refine lv_if_ge (tgt := 21) hx hb dX11_limb_11 (by decide) (fun h11 => ?_) (fun h11 => ?_)
    · have hg := zp hg h11
      refine lv_iload_n hx hb dX11_limb_21 rfl (lv_at hl 2 rfl) ?_
      refine lv_iload_n hx hb dX11_limb_22 rfl (lv_at hl 1 rfl) ?_
      refine lv_if_ne (tgt := 33) hx hb dX11_limb_23 (by decide) (fun h23 => ?_) (fun h23 => ?_)
      · have hg := zn hg h23
        refine lv_aload_n hx hb dX11_limb_33 rfl (lv_at hl 0 rfl) ?_
        refine zget (C := RX11) (T := TX11) (N := 31) S hK hP 0 rfl rfl 7 (Nat.le_of_ble_eq_true rfl) zf_11 zw_153 rfl dX11_limb_34 ?_
        exact B37 x2 v_M_manyBelow a_M_refused _ _ _ hl hP hD hS hg
      · have hg := zp hg h23
        refine lv_aload_n hx hb dX11_limb_26 rfl (lv_at hl 0 rfl) ?_
        refine zget (C := RX11) (T := TX11) (N := 31) S hK hP 0 rfl rfl 6 (Nat.le_of_ble_eq_true rfl) zf_11 zw_920 rfl dX11_limb_27 ?_
        refine lv_goto (tgt := 37) hx hb dX11_limb_30 (by decide) ?_
        exact B37 x2 v_M_manyAbove a_M_refused _ _ _ hl hP hD hS hg
    · have hg := zn hg h11
      exact B14 a_M_refused _ _ _ (lv_sub hl [0] rfl) hP hD hS hg

/-! SpokenClockModel.image(I)I -/
abbrev ws_X11_image (cI cJ cZ cA : ClassId) (q_M q_M_kept q_M_images q_M_now q_M_refused : Nat) (u_M_text : Value) (u_M_size : Value) (u_M_sign : Value) (u_M_manyAbove : Value) (u_M_manyBelow : Value) (u_M_above : Value) (u_M_below : Value) (u_M_at : Value) (u_M_begin : Value) (u_M_kind : Value) (u_M_value : Value) (u_M_read : Value) (u_M_acts : Value) (u_M_act : Value) (u_M_waits : Value) (u_M_wait : Value) (u_M_held : Value) (u_M_place : Value) (u_M_heap : Value) (u_M_clocks : Value) (u_M_counts : Value) (u_M_talking : Value) (u_M_most : Value) (u_M_hasA : Value) (u_M_hasB : Value) (u_M_talks : Value) (u_M_big : Value) (a_M_kept : Nat → Int32) (a_M_now : Nat → Int32) (a_M_images : Nat → Int32) (a_M_refused : Nat → Int32) : va_W := [(q_M, .inr (11, [.ref q_M_now, .ref q_M_images, .ref q_M_kept, u_M_text, u_M_size, u_M_sign, u_M_manyAbove, u_M_manyBelow, u_M_above, u_M_below, .ref q_M_refused, u_M_at, u_M_begin, u_M_kind, u_M_value, u_M_read, u_M_acts, u_M_act, u_M_waits, u_M_wait, u_M_held, u_M_place, u_M_heap, u_M_clocks, u_M_counts, u_M_talking, u_M_most, u_M_hasA, u_M_hasB, u_M_talks, u_M_big])), (q_M_kept, .inl (cZ, 2, .inl a_M_kept)), (q_M_now, .inl (cI, 155, .inl a_M_now)), (q_M_images, .inl (cI, 310, .inl a_M_images)), (q_M_refused, .inl (cI, 3, .inl a_M_refused))]
abbrev rm_X11_image : Room := { frames := 1, cells := 0, slots := 0, locals := 25 }
def g_X11_image_19b (a_M_now : Nat → Int32) (x1 : Int32) (k19 : Int32 → (Nat → Int32) → (Nat → Int32) → (Nat → Int32) → Option (Int32 × (Nat → Int32) × (Nat → Int32) × (Nat → Int32))) (x2 : Int32) (a_M_kept : Nat → Int32) (a_M_images : Nat → Int32) (a_M_refused : Nat → Int32) : Option (Int32 × (Nat → Int32) × (Nat → Int32) × (Nat → Int32)) :=
  if 155 ≤ x2 then (
    if x1 < 0 ∨ 2 ≤ x1.toNatClampNeg then none else
    some (1, upd a_M_kept (x1.toNatClampNeg) 1, a_M_images, a_M_refused)
  ) else (
    if x2 < 0 ∨ 155 ≤ x2.toNatClampNeg then none else
    if ((155 * x1) + x2) < 0 ∨ 310 ≤ ((155 * x1) + x2).toNatClampNeg then none else
    k19 (x2 + 1) a_M_kept (upd a_M_images (((155 * x1) + x2).toNatClampNeg) (a_M_now (x2.toNatClampNeg))) a_M_refused
  )
def g_X11_image_19 (a_M_now : Nat → Int32) (x1 : Int32) : Nat → Int32 → (Nat → Int32) → (Nat → Int32) → (Nat → Int32) → Option (Int32 × (Nat → Int32) × (Nat → Int32) × (Nat → Int32))
  | 0, _, _, _, _ => none
  | n + 1, x2, a_M_kept, a_M_images, a_M_refused => g_X11_image_19b a_M_now x1 (g_X11_image_19 a_M_now x1 n) x2 a_M_kept a_M_images a_M_refused
def g_X11_image (a_M_now : Nat → Int32) (x1 : Int32) (a_M_kept : Nat → Int32) (a_M_images : Nat → Int32) (a_M_refused : Nat → Int32) : Option (Int32 × (Nat → Int32) × (Nat → Int32) × (Nat → Int32)) :=
  (g_X11_in x1.toInt64 (0 : Int64) (1 : Int64)).bind fun v1 =>
  if v1 = 0 then (
    (g_X11_refuse (-2) a_M_refused).bind fun v6 =>
    some (v6.1, a_M_kept, a_M_images, v6.2)
  ) else (
    g_X11_image_19 a_M_now x1 zF 0 a_M_kept a_M_images a_M_refused
  )
theorem hd_X11_image : yX11_image.cls = RX11 ∧ yX11_image.cls ≠ "java/lang/invoke/MethodHandle" ∧ yX11_image.cls ≠ "java/lang/invoke/VarHandle" ∧ (parseMethodDescriptor yX11_image.desc).map (fun d => d.parameters.length) = some 1 := by decide +kernel
set_option maxHeartbeats 4000000 in
set_option maxRecDepth 100000 in
theorem c_X11_image (l : Launch) (D : va_G) (cI cJ cZ cA : ClassId) (ga : Nat → Nat) (q_M q_M_kept q_M_images q_M_now q_M_refused : Nat) (u_M_text : Value) (u_M_size : Value) (u_M_sign : Value) (u_M_manyAbove : Value) (u_M_manyBelow : Value) (u_M_above : Value) (u_M_below : Value) (u_M_at : Value) (u_M_begin : Value) (u_M_kind : Value) (u_M_value : Value) (u_M_read : Value) (u_M_acts : Value) (u_M_act : Value) (u_M_waits : Value) (u_M_wait : Value) (u_M_held : Value) (u_M_place : Value) (u_M_heap : Value) (u_M_clocks : Value) (u_M_counts : Value) (u_M_talking : Value) (u_M_most : Value) (u_M_hasA : Value) (u_M_hasB : Value) (u_M_talks : Value) (u_M_big : Value) (a_M_kept : Nat → Int32) (a_M_now : Nat → Int32) (a_M_images : Nat → Int32) (a_M_refused : Nat → Int32) (x1 : Int32) (o : Int32 × (Nat → Int32) × (Nat → Int32) × (Nat → Int32)) (hg : g_X11_image a_M_now x1 a_M_kept a_M_images a_M_refused = some o) : zM l yX11_image (Cond.code yX11_image cX11_image 3 (some .int) :: wsL_law) rm_X11_image D (zTy cI cJ cZ cA) ga [.ref q_M, .int x1] (ws_X11_image cI cJ cZ cA q_M q_M_kept q_M_images q_M_now q_M_refused u_M_text u_M_size u_M_sign u_M_manyAbove u_M_manyBelow u_M_above u_M_below u_M_at u_M_begin u_M_kind u_M_value u_M_read u_M_acts u_M_act u_M_waits u_M_wait u_M_held u_M_place u_M_heap u_M_clocks u_M_counts u_M_talking u_M_most u_M_hasA u_M_hasB u_M_talks u_M_big a_M_kept a_M_now a_M_images a_M_refused) (ws_X11_image cI cJ cZ cA q_M q_M_kept q_M_images q_M_now q_M_refused u_M_text u_M_size u_M_sign u_M_manyAbove u_M_manyBelow u_M_above u_M_below u_M_at u_M_begin u_M_kind u_M_value u_M_read u_M_acts u_M_act u_M_waits u_M_wait u_M_held u_M_place u_M_heap u_M_clocks u_M_counts u_M_talking u_M_most u_M_hasA u_M_hasB u_M_talks u_M_big o.2.1 a_M_now o.2.2.1 o.2.2.2) (some (.int o.1)) := by
  refine zenterI (own := RX11) (by decide) rfl rfl (Nat.le_of_ble_eq_true rfl) ?_
  intro p e s m args below meth c A ls Q S hA hK hG hl hP hD hS hret0
  have hx := S.1
  have hb := S.2.1
  have ht : ∀ w, w ∈ wsL_law → w.before args s = true := fun w h => S.2.2.2.2 w (List.mem_cons_of_mem _ h)
  have hret : ∀ (r9 : Int32) (a_M_kept : Nat → Int32) (a_M_images : Nat → Int32) (a_M_refused : Nat → Int32), (some (r9, a_M_kept, a_M_images, a_M_refused) : Option (Int32 × (Nat → Int32) × (Nat → Int32) × (Nat → Int32))) = some o → ∀ (H : Heap) (locs : List Loc) (pc : Nat) (ls : Array Slot), va_P D vwCl (ws_X11_image cI cJ cZ cA q_M q_M_kept q_M_images q_M_now q_M_refused u_M_text u_M_size u_M_sign u_M_manyAbove u_M_manyBelow u_M_above u_M_below u_M_at u_M_begin u_M_kind u_M_value u_M_read u_M_acts u_M_act u_M_waits u_M_wait u_M_held u_M_place u_M_heap u_M_clocks u_M_counts u_M_talking u_M_most u_M_hasA u_M_hasB u_M_talks u_M_big a_M_kept a_M_now a_M_images a_M_refused) H → va_S A s.heap H locs → decode cX11_image pc = .ok (.ireturn, 1) → W p l e rm_X11_image s m args below meth c H locs 0 0 Q (F0 m pc ls [.int r9]) := by
    intro r9 a_M_kept a_M_images a_M_refused he; cases he; exact hret0
  have hl : lv_has ls 3 [(0, .ref q_M), (1, .int x1)] := hl
  have B19 : ∀  (n : Nat) (x2 : Int32) (a_M_kept : Nat → Int32) (a_M_images : Nat → Int32) (a_M_refused : Nat → Int32) (H : Heap) (locs : List Loc) (ls : Array Slot) (hl : lv_has ls 3 [(0, .ref q_M), (1, .int x1), (2, .int x2)]) (hP : va_P D vwCl (ws_X11_image cI cJ cZ cA q_M q_M_kept q_M_images q_M_now q_M_refused u_M_text u_M_size u_M_sign u_M_manyAbove u_M_manyBelow u_M_above u_M_below u_M_at u_M_begin u_M_kind u_M_value u_M_read u_M_acts u_M_act u_M_waits u_M_wait u_M_held u_M_place u_M_heap u_M_clocks u_M_counts u_M_talking u_M_most u_M_hasA u_M_hasB u_M_talks u_M_big a_M_kept a_M_now a_M_images a_M_refused) H) (hD : va_D A (ws_X11_image cI cJ cZ cA q_M q_M_kept q_M_images q_M_now q_M_refused u_M_text u_M_size u_M_sign u_M_manyAbove u_M_manyBelow u_M_above u_M_below u_M_at u_M_begin u_M_kind u_M_value u_M_read u_M_acts u_M_act u_M_waits u_M_wait u_M_held u_M_place u_M_heap u_M_clocks u_M_counts u_M_talking u_M_most u_M_hasA u_M_hasB u_M_talks u_M_big a_M_kept a_M_now a_M_images a_M_refused)) (hS : va_S A s.heap H locs), g_X11_image_19 a_M_now x1 n x2 a_M_kept a_M_images a_M_refused = some o → W p l e rm_X11_image s m args below meth c H locs 0 0 Q (F0 m 19 ls []) := by
    intro  n
    induction n with
    | zero => intro x2 a_M_kept a_M_images a_M_refused H locs ls hl hP hD hS hg; exact nomatch (show (none : Option (Int32 × (Nat → Int32) × (Nat → Int32) × (Nat → Int32))) = some o from hg)
    | succ n ih =>
      intro x2 a_M_kept a_M_images a_M_refused H locs ls hl hP hD hS hg
      have hg : g_X11_image_19b a_M_now x1 (g_X11_image_19 a_M_now x1 n) x2 a_M_kept a_M_images a_M_refused = some o := hg
      refine lv_iload_n hx hb dX11_image_19 rfl (lv_at hl 2 rfl) ?_
      refine lv_sipush (v := 155) hx hb dX11_image_20 (by decide) ?_
      refine lv_icmp_ge (tgt := 50) hx hb dX11_image_23 (by decide) (fun h23 => ?_) (fun h23 => ?_)
      · have hg := zp hg h23
        refine lv_aload_n hx hb dX11_image_50 rfl (lv_at hl 0 rfl) ?_
        refine zget (C := RX11) (T := TX11) (N := 31) S hK hP 0 rfl rfl 2 (Nat.le_of_ble_eq_true rfl) zf_11 zw_151 rfl dX11_image_51 ?_
        refine lv_iload_n hx hb dX11_image_54 rfl (lv_at hl 1 rfl) ?_
        refine lv_iconst (v := 1) hx hb dX11_image_55 (by decide) ?_
        obtain ⟨h3, hg⟩ := zck hg
        refine zzast hx hb hK hP hD hS 1 2 rfl rfl (j := (x1.toNatClampNeg)) (y := 1) rfl h3 rfl dX11_image_56 (w2 := (ws_X11_image cI cJ cZ cA q_M q_M_kept q_M_images q_M_now q_M_refused u_M_text u_M_size u_M_sign u_M_manyAbove u_M_manyBelow u_M_above u_M_below u_M_at u_M_begin u_M_kind u_M_value u_M_read u_M_acts u_M_act u_M_waits u_M_wait u_M_held u_M_place u_M_heap u_M_clocks u_M_counts u_M_talking u_M_most u_M_hasA u_M_hasB u_M_talks u_M_big (upd a_M_kept (x1.toNatClampNeg) 1) a_M_now a_M_images a_M_refused)) rfl (fun H locs hP hD hS => ?_)
        refine lv_iconst (v := 1) hx hb dX11_image_57 (by decide) ?_
        exact hret 1 (upd a_M_kept (x1.toNatClampNeg) 1) a_M_images a_M_refused hg _ _ _ _ hP hS dX11_image_58
      · have hg := zn hg h23
        refine lv_aload_n hx hb dX11_image_26 rfl (lv_at hl 0 rfl) ?_
        refine zget (C := RX11) (T := TX11) (N := 31) S hK hP 0 rfl rfl 1 (Nat.le_of_ble_eq_true rfl) zf_11 zw_150 rfl dX11_image_27 ?_
        refine lv_sipush (v := 155) hx hb dX11_image_30 (by decide) ?_
        refine lv_iload_n hx hb dX11_image_33 rfl (lv_at hl 1 rfl) ?_
        refine lv_imul hx hb dX11_image_34 ?_
        refine lv_iload_n hx hb dX11_image_35 rfl (lv_at hl 2 rfl) ?_
        refine lv_iadd hx hb dX11_image_36 ?_
        refine lv_aload_n hx hb dX11_image_37 rfl (lv_at hl 0 rfl) ?_
        refine zget (C := RX11) (T := TX11) (N := 31) S hK hP 0 rfl rfl 0 (Nat.le_of_ble_eq_true rfl) zf_11 zw_149 rfl dX11_image_38 ?_
        refine lv_iload_n hx hb dX11_image_41 rfl (lv_at hl 2 rfl) ?_
        obtain ⟨h4, hg⟩ := zck hg
        refine ziald hx hb hK hP 2 0 rfl rfl (j := (x2.toNatClampNeg)) h4 rfl dX11_image_42 ?_
        obtain ⟨h5, hg⟩ := zck hg
        refine ziast hx hb hK hP hD hS 3 0 rfl rfl (j := (((155 * x1) + x2).toNatClampNeg)) h5 rfl dX11_image_43 (w2 := (ws_X11_image cI cJ cZ cA q_M q_M_kept q_M_images q_M_now q_M_refused u_M_text u_M_size u_M_sign u_M_manyAbove u_M_manyBelow u_M_above u_M_below u_M_at u_M_begin u_M_kind u_M_value u_M_read u_M_acts u_M_act u_M_waits u_M_wait u_M_held u_M_place u_M_heap u_M_clocks u_M_counts u_M_talking u_M_most u_M_hasA u_M_hasB u_M_talks u_M_big a_M_kept a_M_now (upd a_M_images (((155 * x1) + x2).toNatClampNeg) (a_M_now (x2.toNatClampNeg))) a_M_refused)) rfl (fun H locs hP hD hS => ?_)
        refine lv_iinc (k := 2) (v := x2 + 1) (lv' := [(2, .int (x2 + 1)), (0, .ref q_M), (1, .int x1)]) hx hb dX11_image_44 hl rfl (zinc (by decide)) (by decide) rfl (fun ls hl => ?_)
        refine lv_goto (tgt := 19) hx hb dX11_image_47 (by decide) ?_
        exact ih (x2 + 1) a_M_kept (upd a_M_images (((155 * x1) + x2).toNatClampNeg) (a_M_now (x2.toNatClampNeg))) a_M_refused _ _ _ (lv_sub hl [1, 2, 0] rfl) hP hD hS hg
  refine lv_iload_n hx hb dX11_image_0 rfl (lv_at hl 1 rfl) ?_
  refine lv_i2l hx hb dX11_image_1 rfl ?_
  refine lv_lconst (v := 0) hx hb dX11_image_2 (by decide) ?_
  refine lv_lconst (v := 1) hx hb dX11_image_3 (by decide) ?_
  obtain ⟨v1, hc2, hg⟩ := zbd hg
  refine zcallS (rest := []) S (c_X11_in l D cI cJ cZ cA ga x1.toInt64 (0 : Int64) (1 : Int64) v1 hc2) (zgS zw_220 zw_221 zw_5 zw_222) rfl hd_X11_in ⟨rfl, rfl⟩ ⟨Nat.le_of_ble_eq_true rfl, Nat.le_of_ble_eq_true rfl⟩ rfl hl.1 rfl (Nat.le_of_ble_eq_true rfl) dX11_image_4 hP hD hS hA hK hG (isC := []) rfl (by decide +kernel) rfl ⟨Nat.zero_le _, Nat.zero_le _⟩ (pl := [none, none, none, none, none]) (nw := 5) rfl (by decide +kernel) (w2 := (ws_X11_image cI cJ cZ cA q_M q_M_kept q_M_images q_M_now q_M_refused u_M_text u_M_size u_M_sign u_M_manyAbove u_M_manyBelow u_M_above u_M_below u_M_at u_M_begin u_M_kind u_M_value u_M_read u_M_acts u_M_act u_M_waits u_M_wait u_M_held u_M_place u_M_heap u_M_clocks u_M_counts u_M_talking u_M_most u_M_hasA u_M_hasB u_M_talks u_M_big a_M_kept a_M_now a_M_images a_M_refused)) rfl (st1 := [.int v1]) rfl (fun H locs hP hD hS => ?_)
  refine lv_if_ne (tgt := 17) hx hb dX11_image_7 (by decide) (fun h7 => ?_) (fun h7 => ?_)
  · have hg := zn hg h7
    refine lv_iconst (v := 0) hx hb dX11_image_17 (by decide) ?_
    refine lv_istore_n (lv' := [(2, .int 0), (0, .ref q_M), (1, .int x1)]) hx hb dX11_image_18 rfl hl (by decide) rfl (fun ls hl => ?_)
    exact B19 zF 0 a_M_kept a_M_images a_M_refused _ _ _ (lv_sub hl [1, 2, 0] rfl) hP hD hS hg
  · have hg := zp hg h7
    refine lv_aload_n hx hb dX11_image_10 rfl (lv_at hl 0 rfl) ?_
    refine lv_bipush (v := (-2)) hx hb dX11_image_11 (by decide) ?_
    obtain ⟨v6, hc7, hg⟩ := zbd hg
    refine zcallV (rest := []) S (c_X11_refuse l D cI cJ cZ cA ga q_M q_M_refused (.ref q_M_now) (.ref q_M_images) (.ref q_M_kept) u_M_text u_M_size u_M_sign u_M_manyAbove u_M_manyBelow u_M_above u_M_below u_M_at u_M_begin u_M_kind u_M_value u_M_read u_M_acts u_M_act u_M_waits u_M_wait u_M_held u_M_place u_M_heap u_M_clocks u_M_counts u_M_talking u_M_most u_M_hasA u_M_hasB u_M_talks u_M_big a_M_refused (-2) v6 hc7) (zgV zw_223 zw_224 zw_225 zw_5 zw_226) rfl hd_X11_refuse ⟨rfl, rfl⟩ ⟨Nat.le_of_ble_eq_true rfl, Nat.le_of_ble_eq_true rfl⟩ 0 11 rfl rfl rfl hl.1 rfl (Nat.le_of_ble_eq_true rfl) dX11_image_13 hP hD hS hA hK hG (isC := [0, 4]) rfl (by decide +kernel) rfl ⟨Nat.zero_le _, Nat.zero_le _⟩ (pl := [some 0, none, none, none, some 1]) (nw := 5) rfl (by decide +kernel) (w2 := (ws_X11_image cI cJ cZ cA q_M q_M_kept q_M_images q_M_now q_M_refused u_M_text u_M_size u_M_sign u_M_manyAbove u_M_manyBelow u_M_above u_M_below u_M_at u_M_begin u_M_kind u_M_value u_M_read u_M_acts u_M_act u_M_waits u_M_wait u_M_held u_M_place u_M_heap u_M_clocks u_M_counts u_M_talking u_M_most u_M_hasA u_M_hasB u_M_talks u_M_big a_M_kept a_M_now a_M_images v6.2)) rfl (st1 := [.int v6.1]) rfl (fun H locs hP hD hS => ?_)
    exact hret v6.1 a_M_kept a_M_images v6.2 hg _ _ _ _ hP hS dX11_image_16

/-! SpokenClockModel.from(I)I -/
abbrev ws_X11_from (cI cJ cZ cA : ClassId) (q_M q_M_kept q_M_now q_M_images q_M_refused : Nat) (u_M_text : Value) (u_M_size : Value) (u_M_sign : Value) (u_M_manyAbove : Value) (u_M_manyBelow : Value) (u_M_above : Value) (u_M_below : Value) (u_M_at : Value) (u_M_begin : Value) (u_M_kind : Value) (u_M_value : Value) (u_M_read : Value) (u_M_acts : Value) (u_M_act : Value) (u_M_waits : Value) (u_M_wait : Value) (u_M_held : Value) (u_M_place : Value) (u_M_heap : Value) (u_M_clocks : Value) (u_M_counts : Value) (u_M_talking : Value) (u_M_most : Value) (u_M_hasA : Value) (u_M_hasB : Value) (u_M_talks : Value) (u_M_big : Value) (a_M_kept : Nat → Int32) (a_M_images : Nat → Int32) (a_M_now : Nat → Int32) (a_M_refused : Nat → Int32) : va_W := [(q_M, .inr (11, [.ref q_M_now, .ref q_M_images, .ref q_M_kept, u_M_text, u_M_size, u_M_sign, u_M_manyAbove, u_M_manyBelow, u_M_above, u_M_below, .ref q_M_refused, u_M_at, u_M_begin, u_M_kind, u_M_value, u_M_read, u_M_acts, u_M_act, u_M_waits, u_M_wait, u_M_held, u_M_place, u_M_heap, u_M_clocks, u_M_counts, u_M_talking, u_M_most, u_M_hasA, u_M_hasB, u_M_talks, u_M_big])), (q_M_kept, .inl (cZ, 2, .inl a_M_kept)), (q_M_images, .inl (cI, 310, .inl a_M_images)), (q_M_now, .inl (cI, 155, .inl a_M_now)), (q_M_refused, .inl (cI, 3, .inl a_M_refused))]
abbrev rm_X11_from : Room := { frames := 1, cells := 0, slots := 0, locals := 25 }
def g_X11_from_35b (a_M_kept : Nat → Int32) (a_M_images : Nat → Int32) (x1 : Int32) (k35 : Int32 → (Nat → Int32) → (Nat → Int32) → Option (Int32 × (Nat → Int32) × (Nat → Int32))) (x2 : Int32) (a_M_now : Nat → Int32) (a_M_refused : Nat → Int32) : Option (Int32 × (Nat → Int32) × (Nat → Int32)) :=
  if 155 ≤ x2 then (
    some (1, a_M_now, a_M_refused)
  ) else (
    if ((155 * x1) + x2) < 0 ∨ 310 ≤ ((155 * x1) + x2).toNatClampNeg then none else
    if x2 < 0 ∨ 155 ≤ x2.toNatClampNeg then none else
    k35 (x2 + 1) (upd a_M_now (x2.toNatClampNeg) (a_M_images (((155 * x1) + x2).toNatClampNeg))) a_M_refused
  )
def g_X11_from_35 (a_M_kept : Nat → Int32) (a_M_images : Nat → Int32) (x1 : Int32) : Nat → Int32 → (Nat → Int32) → (Nat → Int32) → Option (Int32 × (Nat → Int32) × (Nat → Int32))
  | 0, _, _, _ => none
  | n + 1, x2, a_M_now, a_M_refused => g_X11_from_35b a_M_kept a_M_images x1 (g_X11_from_35 a_M_kept a_M_images x1 n) x2 a_M_now a_M_refused
def g_X11_from (a_M_kept : Nat → Int32) (a_M_images : Nat → Int32) (x1 : Int32) (a_M_now : Nat → Int32) (a_M_refused : Nat → Int32) : Option (Int32 × (Nat → Int32) × (Nat → Int32)) :=
  (g_X11_in x1.toInt64 (0 : Int64) (1 : Int64)).bind fun v1 =>
  if v1 = 0 then (
    (g_X11_refuse (-2) a_M_refused).bind fun v8 =>
    some (v8.1, a_M_now, v8.2)
  ) else (
    if x1 < 0 ∨ 2 ≤ x1.toNatClampNeg then none else
    if (a_M_kept (x1.toNatClampNeg)) = 0 then (
      (g_X11_refuse (-3) a_M_refused).bind fun v6 =>
      some (v6.1, a_M_now, v6.2)
    ) else (
      g_X11_from_35 a_M_kept a_M_images x1 zF 0 a_M_now a_M_refused
    )
  )
theorem hd_X11_from : yX11_from.cls = RX11 ∧ yX11_from.cls ≠ "java/lang/invoke/MethodHandle" ∧ yX11_from.cls ≠ "java/lang/invoke/VarHandle" ∧ (parseMethodDescriptor yX11_from.desc).map (fun d => d.parameters.length) = some 1 := by decide +kernel
set_option maxHeartbeats 4000000 in
set_option maxRecDepth 100000 in
theorem c_X11_from (l : Launch) (D : va_G) (cI cJ cZ cA : ClassId) (ga : Nat → Nat) (q_M q_M_kept q_M_now q_M_images q_M_refused : Nat) (u_M_text : Value) (u_M_size : Value) (u_M_sign : Value) (u_M_manyAbove : Value) (u_M_manyBelow : Value) (u_M_above : Value) (u_M_below : Value) (u_M_at : Value) (u_M_begin : Value) (u_M_kind : Value) (u_M_value : Value) (u_M_read : Value) (u_M_acts : Value) (u_M_act : Value) (u_M_waits : Value) (u_M_wait : Value) (u_M_held : Value) (u_M_place : Value) (u_M_heap : Value) (u_M_clocks : Value) (u_M_counts : Value) (u_M_talking : Value) (u_M_most : Value) (u_M_hasA : Value) (u_M_hasB : Value) (u_M_talks : Value) (u_M_big : Value) (a_M_kept : Nat → Int32) (a_M_images : Nat → Int32) (a_M_now : Nat → Int32) (a_M_refused : Nat → Int32) (x1 : Int32) (o : Int32 × (Nat → Int32) × (Nat → Int32)) (hg : g_X11_from a_M_kept a_M_images x1 a_M_now a_M_refused = some o) : zM l yX11_from (Cond.code yX11_from cX11_from 3 (some .int) :: wsL_law) rm_X11_from D (zTy cI cJ cZ cA) ga [.ref q_M, .int x1] (ws_X11_from cI cJ cZ cA q_M q_M_kept q_M_now q_M_images q_M_refused u_M_text u_M_size u_M_sign u_M_manyAbove u_M_manyBelow u_M_above u_M_below u_M_at u_M_begin u_M_kind u_M_value u_M_read u_M_acts u_M_act u_M_waits u_M_wait u_M_held u_M_place u_M_heap u_M_clocks u_M_counts u_M_talking u_M_most u_M_hasA u_M_hasB u_M_talks u_M_big a_M_kept a_M_images a_M_now a_M_refused) (ws_X11_from cI cJ cZ cA q_M q_M_kept q_M_now q_M_images q_M_refused u_M_text u_M_size u_M_sign u_M_manyAbove u_M_manyBelow u_M_above u_M_below u_M_at u_M_begin u_M_kind u_M_value u_M_read u_M_acts u_M_act u_M_waits u_M_wait u_M_held u_M_place u_M_heap u_M_clocks u_M_counts u_M_talking u_M_most u_M_hasA u_M_hasB u_M_talks u_M_big a_M_kept a_M_images o.2.1 o.2.2) (some (.int o.1)) := by
  refine zenterI (own := RX11) (by decide) rfl rfl (Nat.le_of_ble_eq_true rfl) ?_
  intro p e s m args below meth c A ls Q S hA hK hG hl hP hD hS hret0
  have hx := S.1
  have hb := S.2.1
  have ht : ∀ w, w ∈ wsL_law → w.before args s = true := fun w h => S.2.2.2.2 w (List.mem_cons_of_mem _ h)
  have hret : ∀ (r9 : Int32) (a_M_now : Nat → Int32) (a_M_refused : Nat → Int32), (some (r9, a_M_now, a_M_refused) : Option (Int32 × (Nat → Int32) × (Nat → Int32))) = some o → ∀ (H : Heap) (locs : List Loc) (pc : Nat) (ls : Array Slot), va_P D vwCl (ws_X11_from cI cJ cZ cA q_M q_M_kept q_M_now q_M_images q_M_refused u_M_text u_M_size u_M_sign u_M_manyAbove u_M_manyBelow u_M_above u_M_below u_M_at u_M_begin u_M_kind u_M_value u_M_read u_M_acts u_M_act u_M_waits u_M_wait u_M_held u_M_place u_M_heap u_M_clocks u_M_counts u_M_talking u_M_most u_M_hasA u_M_hasB u_M_talks u_M_big a_M_kept a_M_images a_M_now a_M_refused) H → va_S A s.heap H locs → decode cX11_from pc = .ok (.ireturn, 1) → W p l e rm_X11_from s m args below meth c H locs 0 0 Q (F0 m pc ls [.int r9]) := by
    intro r9 a_M_now a_M_refused he; cases he; exact hret0
  have hl : lv_has ls 3 [(0, .ref q_M), (1, .int x1)] := hl
  have B35 : ∀  (n : Nat) (x2 : Int32) (a_M_now : Nat → Int32) (a_M_refused : Nat → Int32) (H : Heap) (locs : List Loc) (ls : Array Slot) (hl : lv_has ls 3 [(0, .ref q_M), (1, .int x1), (2, .int x2)]) (hP : va_P D vwCl (ws_X11_from cI cJ cZ cA q_M q_M_kept q_M_now q_M_images q_M_refused u_M_text u_M_size u_M_sign u_M_manyAbove u_M_manyBelow u_M_above u_M_below u_M_at u_M_begin u_M_kind u_M_value u_M_read u_M_acts u_M_act u_M_waits u_M_wait u_M_held u_M_place u_M_heap u_M_clocks u_M_counts u_M_talking u_M_most u_M_hasA u_M_hasB u_M_talks u_M_big a_M_kept a_M_images a_M_now a_M_refused) H) (hD : va_D A (ws_X11_from cI cJ cZ cA q_M q_M_kept q_M_now q_M_images q_M_refused u_M_text u_M_size u_M_sign u_M_manyAbove u_M_manyBelow u_M_above u_M_below u_M_at u_M_begin u_M_kind u_M_value u_M_read u_M_acts u_M_act u_M_waits u_M_wait u_M_held u_M_place u_M_heap u_M_clocks u_M_counts u_M_talking u_M_most u_M_hasA u_M_hasB u_M_talks u_M_big a_M_kept a_M_images a_M_now a_M_refused)) (hS : va_S A s.heap H locs), g_X11_from_35 a_M_kept a_M_images x1 n x2 a_M_now a_M_refused = some o → W p l e rm_X11_from s m args below meth c H locs 0 0 Q (F0 m 35 ls []) := by
    intro  n
    induction n with
    | zero => intro x2 a_M_now a_M_refused H locs ls hl hP hD hS hg; exact nomatch (show (none : Option (Int32 × (Nat → Int32) × (Nat → Int32))) = some o from hg)
    | succ n ih =>
      intro x2 a_M_now a_M_refused H locs ls hl hP hD hS hg
      have hg : g_X11_from_35b a_M_kept a_M_images x1 (g_X11_from_35 a_M_kept a_M_images x1 n) x2 a_M_now a_M_refused = some o := hg
      refine lv_iload_n hx hb dX11_from_35 rfl (lv_at hl 2 rfl) ?_
      refine lv_sipush (v := 155) hx hb dX11_from_36 (by decide) ?_
      refine lv_icmp_ge (tgt := 66) hx hb dX11_from_39 (by decide) (fun h39 => ?_) (fun h39 => ?_)
      · have hg := zp hg h39
        refine lv_iconst (v := 1) hx hb dX11_from_66 (by decide) ?_
        exact hret 1 a_M_now a_M_refused hg _ _ _ _ hP hS dX11_from_67
      · have hg := zn hg h39
        refine lv_aload_n hx hb dX11_from_42 rfl (lv_at hl 0 rfl) ?_
        refine zget (C := RX11) (T := TX11) (N := 31) S hK hP 0 rfl rfl 0 (Nat.le_of_ble_eq_true rfl) zf_11 zw_149 rfl dX11_from_43 ?_
        refine lv_iload_n hx hb dX11_from_46 rfl (lv_at hl 2 rfl) ?_
        refine lv_aload_n hx hb dX11_from_47 rfl (lv_at hl 0 rfl) ?_
        refine zget (C := RX11) (T := TX11) (N := 31) S hK hP 0 rfl rfl 1 (Nat.le_of_ble_eq_true rfl) zf_11 zw_150 rfl dX11_from_48 ?_
        refine lv_sipush (v := 155) hx hb dX11_from_51 (by decide) ?_
        refine lv_iload_n hx hb dX11_from_54 rfl (lv_at hl 1 rfl) ?_
        refine lv_imul hx hb dX11_from_55 ?_
        refine lv_iload_n hx hb dX11_from_56 rfl (lv_at hl 2 rfl) ?_
        refine lv_iadd hx hb dX11_from_57 ?_
        obtain ⟨h4, hg⟩ := zck hg
        refine ziald hx hb hK hP 2 0 rfl rfl (j := (((155 * x1) + x2).toNatClampNeg)) h4 rfl dX11_from_58 ?_
        obtain ⟨h5, hg⟩ := zck hg
        refine ziast hx hb hK hP hD hS 3 0 rfl rfl (j := (x2.toNatClampNeg)) h5 rfl dX11_from_59 (w2 := (ws_X11_from cI cJ cZ cA q_M q_M_kept q_M_now q_M_images q_M_refused u_M_text u_M_size u_M_sign u_M_manyAbove u_M_manyBelow u_M_above u_M_below u_M_at u_M_begin u_M_kind u_M_value u_M_read u_M_acts u_M_act u_M_waits u_M_wait u_M_held u_M_place u_M_heap u_M_clocks u_M_counts u_M_talking u_M_most u_M_hasA u_M_hasB u_M_talks u_M_big a_M_kept a_M_images (upd a_M_now (x2.toNatClampNeg) (a_M_images (((155 * x1) + x2).toNatClampNeg))) a_M_refused)) rfl (fun H locs hP hD hS => ?_)
        refine lv_iinc (k := 2) (v := x2 + 1) (lv' := [(2, .int (x2 + 1)), (0, .ref q_M), (1, .int x1)]) hx hb dX11_from_60 hl rfl (zinc (by decide)) (by decide) rfl (fun ls hl => ?_)
        refine lv_goto (tgt := 35) hx hb dX11_from_63 (by decide) ?_
        exact ih (x2 + 1) (upd a_M_now (x2.toNatClampNeg) (a_M_images (((155 * x1) + x2).toNatClampNeg))) a_M_refused _ _ _ (lv_sub hl [1, 2, 0] rfl) hP hD hS hg
  refine lv_iload_n hx hb dX11_from_0 rfl (lv_at hl 1 rfl) ?_
  refine lv_i2l hx hb dX11_from_1 rfl ?_
  refine lv_lconst (v := 0) hx hb dX11_from_2 (by decide) ?_
  refine lv_lconst (v := 1) hx hb dX11_from_3 (by decide) ?_
  obtain ⟨v1, hc2, hg⟩ := zbd hg
  refine zcallS (rest := []) S (c_X11_in l D cI cJ cZ cA ga x1.toInt64 (0 : Int64) (1 : Int64) v1 hc2) (zgS zw_220 zw_221 zw_5 zw_222) rfl hd_X11_in ⟨rfl, rfl⟩ ⟨Nat.le_of_ble_eq_true rfl, Nat.le_of_ble_eq_true rfl⟩ rfl hl.1 rfl (Nat.le_of_ble_eq_true rfl) dX11_from_4 hP hD hS hA hK hG (isC := []) rfl (by decide +kernel) rfl ⟨Nat.zero_le _, Nat.zero_le _⟩ (pl := [none, none, none, none, none]) (nw := 5) rfl (by decide +kernel) (w2 := (ws_X11_from cI cJ cZ cA q_M q_M_kept q_M_now q_M_images q_M_refused u_M_text u_M_size u_M_sign u_M_manyAbove u_M_manyBelow u_M_above u_M_below u_M_at u_M_begin u_M_kind u_M_value u_M_read u_M_acts u_M_act u_M_waits u_M_wait u_M_held u_M_place u_M_heap u_M_clocks u_M_counts u_M_talking u_M_most u_M_hasA u_M_hasB u_M_talks u_M_big a_M_kept a_M_images a_M_now a_M_refused)) rfl (st1 := [.int v1]) rfl (fun H locs hP hD hS => ?_)
  refine lv_if_ne (tgt := 17) hx hb dX11_from_7 (by decide) (fun h7 => ?_) (fun h7 => ?_)
  · have hg := zn hg h7
    refine lv_aload_n hx hb dX11_from_17 rfl (lv_at hl 0 rfl) ?_
    refine zget (C := RX11) (T := TX11) (N := 31) S hK hP 0 rfl rfl 2 (Nat.le_of_ble_eq_true rfl) zf_11 zw_151 rfl dX11_from_18 ?_
    refine lv_iload_n hx hb dX11_from_21 rfl (lv_at hl 1 rfl) ?_
    obtain ⟨h3, hg⟩ := zck hg
    refine zzald hx hb hK hP 1 2 rfl rfl (j := (x1.toNatClampNeg)) h3 rfl dX11_from_22 ?_
    refine lv_if_ne (tgt := 33) hx hb dX11_from_23 (by decide) (fun h23 => ?_) (fun h23 => ?_)
    · have hg := zn hg h23
      refine lv_iconst (v := 0) hx hb dX11_from_33 (by decide) ?_
      refine lv_istore_n (lv' := [(2, .int 0), (0, .ref q_M), (1, .int x1)]) hx hb dX11_from_34 rfl hl (by decide) rfl (fun ls hl => ?_)
      exact B35 zF 0 a_M_now a_M_refused _ _ _ (lv_sub hl [1, 2, 0] rfl) hP hD hS hg
    · have hg := zp hg h23
      refine lv_aload_n hx hb dX11_from_26 rfl (lv_at hl 0 rfl) ?_
      refine lv_bipush (v := (-3)) hx hb dX11_from_27 (by decide) ?_
      obtain ⟨v6, hc7, hg⟩ := zbd hg
      refine zcallV (rest := []) S (c_X11_refuse l D cI cJ cZ cA ga q_M q_M_refused (.ref q_M_now) (.ref q_M_images) (.ref q_M_kept) u_M_text u_M_size u_M_sign u_M_manyAbove u_M_manyBelow u_M_above u_M_below u_M_at u_M_begin u_M_kind u_M_value u_M_read u_M_acts u_M_act u_M_waits u_M_wait u_M_held u_M_place u_M_heap u_M_clocks u_M_counts u_M_talking u_M_most u_M_hasA u_M_hasB u_M_talks u_M_big a_M_refused (-3) v6 hc7) (zgV zw_223 zw_224 zw_225 zw_5 zw_226) rfl hd_X11_refuse ⟨rfl, rfl⟩ ⟨Nat.le_of_ble_eq_true rfl, Nat.le_of_ble_eq_true rfl⟩ 0 11 rfl rfl rfl hl.1 rfl (Nat.le_of_ble_eq_true rfl) dX11_from_29 hP hD hS hA hK hG (isC := [0, 4]) rfl (by decide +kernel) rfl ⟨Nat.zero_le _, Nat.zero_le _⟩ (pl := [some 0, none, none, none, some 1]) (nw := 5) rfl (by decide +kernel) (w2 := (ws_X11_from cI cJ cZ cA q_M q_M_kept q_M_now q_M_images q_M_refused u_M_text u_M_size u_M_sign u_M_manyAbove u_M_manyBelow u_M_above u_M_below u_M_at u_M_begin u_M_kind u_M_value u_M_read u_M_acts u_M_act u_M_waits u_M_wait u_M_held u_M_place u_M_heap u_M_clocks u_M_counts u_M_talking u_M_most u_M_hasA u_M_hasB u_M_talks u_M_big a_M_kept a_M_images a_M_now v6.2)) rfl (st1 := [.int v6.1]) rfl (fun H locs hP hD hS => ?_)
      exact hret v6.1 a_M_now v6.2 hg _ _ _ _ hP hS dX11_from_32
  · have hg := zp hg h7
    refine lv_aload_n hx hb dX11_from_10 rfl (lv_at hl 0 rfl) ?_
    refine lv_bipush (v := (-2)) hx hb dX11_from_11 (by decide) ?_
    obtain ⟨v8, hc9, hg⟩ := zbd hg
    refine zcallV (rest := []) S (c_X11_refuse l D cI cJ cZ cA ga q_M q_M_refused (.ref q_M_now) (.ref q_M_images) (.ref q_M_kept) u_M_text u_M_size u_M_sign u_M_manyAbove u_M_manyBelow u_M_above u_M_below u_M_at u_M_begin u_M_kind u_M_value u_M_read u_M_acts u_M_act u_M_waits u_M_wait u_M_held u_M_place u_M_heap u_M_clocks u_M_counts u_M_talking u_M_most u_M_hasA u_M_hasB u_M_talks u_M_big a_M_refused (-2) v8 hc9) (zgV zw_223 zw_224 zw_225 zw_5 zw_226) rfl hd_X11_refuse ⟨rfl, rfl⟩ ⟨Nat.le_of_ble_eq_true rfl, Nat.le_of_ble_eq_true rfl⟩ 0 11 rfl rfl rfl hl.1 rfl (Nat.le_of_ble_eq_true rfl) dX11_from_13 hP hD hS hA hK hG (isC := [0, 4]) rfl (by decide +kernel) rfl ⟨Nat.zero_le _, Nat.zero_le _⟩ (pl := [some 0, none, none, none, some 1]) (nw := 5) rfl (by decide +kernel) (w2 := (ws_X11_from cI cJ cZ cA q_M q_M_kept q_M_now q_M_images q_M_refused u_M_text u_M_size u_M_sign u_M_manyAbove u_M_manyBelow u_M_above u_M_below u_M_at u_M_begin u_M_kind u_M_value u_M_read u_M_acts u_M_act u_M_waits u_M_wait u_M_held u_M_place u_M_heap u_M_clocks u_M_counts u_M_talking u_M_most u_M_hasA u_M_hasB u_M_talks u_M_big a_M_kept a_M_images a_M_now v8.2)) rfl (st1 := [.int v8.1]) rfl (fun H locs hP hD hS => ?_)
    exact hret v8.1 a_M_now v8.2 hg _ _ _ _ hP hS dX11_from_16

/-! SpokenClockModel.status(I)I -/
abbrev ws_X11_status (cI cJ cZ cA : ClassId) (q_M q_M_refused : Nat) (u_M_now : Value) (u_M_images : Value) (u_M_kept : Value) (u_M_text : Value) (u_M_size : Value) (u_M_sign : Value) (u_M_manyAbove : Value) (u_M_manyBelow : Value) (u_M_above : Value) (u_M_below : Value) (u_M_at : Value) (u_M_begin : Value) (u_M_kind : Value) (u_M_value : Value) (u_M_read : Value) (u_M_acts : Value) (u_M_act : Value) (u_M_waits : Value) (u_M_wait : Value) (u_M_held : Value) (u_M_place : Value) (u_M_heap : Value) (u_M_clocks : Value) (u_M_counts : Value) (u_M_talking : Value) (u_M_most : Value) (u_M_hasA : Value) (u_M_hasB : Value) (u_M_talks : Value) (u_M_big : Value) (a_M_refused : Nat → Int32) : va_W := [(q_M, .inr (11, [u_M_now, u_M_images, u_M_kept, u_M_text, u_M_size, u_M_sign, u_M_manyAbove, u_M_manyBelow, u_M_above, u_M_below, .ref q_M_refused, u_M_at, u_M_begin, u_M_kind, u_M_value, u_M_read, u_M_acts, u_M_act, u_M_waits, u_M_wait, u_M_held, u_M_place, u_M_heap, u_M_clocks, u_M_counts, u_M_talking, u_M_most, u_M_hasA, u_M_hasB, u_M_talks, u_M_big])), (q_M_refused, .inl (cI, 3, .inl a_M_refused))]
abbrev rm_X11_status : Room := { frames := 1, cells := 0, slots := 0, locals := 25 }
def g_X11_status (x1 : Int32) (a_M_refused : Nat → Int32) : Option (Int32 × (Nat → Int32)) :=
  (g_X11_in x1.toInt64 (0 : Int64) (2 : Int64)).bind fun v1 =>
  if v1 = 0 then (
    some ((-1), upd a_M_refused 0 ((a_M_refused 0) + 1))
  ) else (
    if x1 < 0 ∨ 3 ≤ x1.toNatClampNeg then none else
    some (a_M_refused (x1.toNatClampNeg), a_M_refused)
  )
theorem hd_X11_status : yX11_status.cls = RX11 ∧ yX11_status.cls ≠ "java/lang/invoke/MethodHandle" ∧ yX11_status.cls ≠ "java/lang/invoke/VarHandle" ∧ (parseMethodDescriptor yX11_status.desc).map (fun d => d.parameters.length) = some 1 := by decide +kernel
set_option maxHeartbeats 4000000 in
set_option maxRecDepth 100000 in
theorem c_X11_status (l : Launch) (D : va_G) (cI cJ cZ cA : ClassId) (ga : Nat → Nat) (q_M q_M_refused : Nat) (u_M_now : Value) (u_M_images : Value) (u_M_kept : Value) (u_M_text : Value) (u_M_size : Value) (u_M_sign : Value) (u_M_manyAbove : Value) (u_M_manyBelow : Value) (u_M_above : Value) (u_M_below : Value) (u_M_at : Value) (u_M_begin : Value) (u_M_kind : Value) (u_M_value : Value) (u_M_read : Value) (u_M_acts : Value) (u_M_act : Value) (u_M_waits : Value) (u_M_wait : Value) (u_M_held : Value) (u_M_place : Value) (u_M_heap : Value) (u_M_clocks : Value) (u_M_counts : Value) (u_M_talking : Value) (u_M_most : Value) (u_M_hasA : Value) (u_M_hasB : Value) (u_M_talks : Value) (u_M_big : Value) (a_M_refused : Nat → Int32) (x1 : Int32) (o : Int32 × (Nat → Int32)) (hg : g_X11_status x1 a_M_refused = some o) : zM l yX11_status (Cond.code yX11_status cX11_status 2 (some .int) :: wsL_law) rm_X11_status D (zTy cI cJ cZ cA) ga [.ref q_M, .int x1] (ws_X11_status cI cJ cZ cA q_M q_M_refused u_M_now u_M_images u_M_kept u_M_text u_M_size u_M_sign u_M_manyAbove u_M_manyBelow u_M_above u_M_below u_M_at u_M_begin u_M_kind u_M_value u_M_read u_M_acts u_M_act u_M_waits u_M_wait u_M_held u_M_place u_M_heap u_M_clocks u_M_counts u_M_talking u_M_most u_M_hasA u_M_hasB u_M_talks u_M_big a_M_refused) (ws_X11_status cI cJ cZ cA q_M q_M_refused u_M_now u_M_images u_M_kept u_M_text u_M_size u_M_sign u_M_manyAbove u_M_manyBelow u_M_above u_M_below u_M_at u_M_begin u_M_kind u_M_value u_M_read u_M_acts u_M_act u_M_waits u_M_wait u_M_held u_M_place u_M_heap u_M_clocks u_M_counts u_M_talking u_M_most u_M_hasA u_M_hasB u_M_talks u_M_big o.2) (some (.int o.1)) := by
  refine zenterI (own := RX11) (by decide) rfl rfl (Nat.le_of_ble_eq_true rfl) ?_
  intro p e s m args below meth c A ls Q S hA hK hG hl hP hD hS hret0
  have hx := S.1
  have hb := S.2.1
  have ht : ∀ w, w ∈ wsL_law → w.before args s = true := fun w h => S.2.2.2.2 w (List.mem_cons_of_mem _ h)
  have hret : ∀ (r9 : Int32) (a_M_refused : Nat → Int32), (some (r9, a_M_refused) : Option (Int32 × (Nat → Int32))) = some o → ∀ (H : Heap) (locs : List Loc) (pc : Nat) (ls : Array Slot), va_P D vwCl (ws_X11_status cI cJ cZ cA q_M q_M_refused u_M_now u_M_images u_M_kept u_M_text u_M_size u_M_sign u_M_manyAbove u_M_manyBelow u_M_above u_M_below u_M_at u_M_begin u_M_kind u_M_value u_M_read u_M_acts u_M_act u_M_waits u_M_wait u_M_held u_M_place u_M_heap u_M_clocks u_M_counts u_M_talking u_M_most u_M_hasA u_M_hasB u_M_talks u_M_big a_M_refused) H → va_S A s.heap H locs → decode cX11_status pc = .ok (.ireturn, 1) → W p l e rm_X11_status s m args below meth c H locs 0 0 Q (F0 m pc ls [.int r9]) := by
    intro r9 a_M_refused he; cases he; exact hret0
  have hl : lv_has ls 2 [(0, .ref q_M), (1, .int x1)] := hl
  refine lv_iload_n hx hb dX11_status_0 rfl (lv_at hl 1 rfl) ?_
  refine lv_i2l hx hb dX11_status_1 rfl ?_
  refine lv_lconst (v := 0) hx hb dX11_status_2 (by decide) ?_
  refine lv_ldc2 (v := 2) hx hb S.2.2.2.1 (ht _ zw_293) dX11_status_3 ?_
  obtain ⟨v1, hc2, hg⟩ := zbd hg
  refine zcallS (rest := []) S (c_X11_in l D cI cJ cZ cA ga x1.toInt64 (0 : Int64) (2 : Int64) v1 hc2) (zgS zw_220 zw_221 zw_5 zw_222) rfl hd_X11_in ⟨rfl, rfl⟩ ⟨Nat.le_of_ble_eq_true rfl, Nat.le_of_ble_eq_true rfl⟩ rfl hl.1 rfl (Nat.le_of_ble_eq_true rfl) dX11_status_6 hP hD hS hA hK hG (isC := []) rfl (by decide +kernel) rfl ⟨Nat.zero_le _, Nat.zero_le _⟩ (pl := [none, none]) (nw := 2) rfl (by decide +kernel) (w2 := (ws_X11_status cI cJ cZ cA q_M q_M_refused u_M_now u_M_images u_M_kept u_M_text u_M_size u_M_sign u_M_manyAbove u_M_manyBelow u_M_above u_M_below u_M_at u_M_begin u_M_kind u_M_value u_M_read u_M_acts u_M_act u_M_waits u_M_wait u_M_held u_M_place u_M_heap u_M_clocks u_M_counts u_M_talking u_M_most u_M_hasA u_M_hasB u_M_talks u_M_big a_M_refused)) rfl (st1 := [.int v1]) rfl (fun H locs hP hD hS => ?_)
  refine lv_if_ne (tgt := 24) hx hb dX11_status_9 (by decide) (fun h9 => ?_) (fun h9 => ?_)
  · have hg := zn hg h9
    refine lv_aload_n hx hb dX11_status_24 rfl (lv_at hl 0 rfl) ?_
    refine zget (C := RX11) (T := TX11) (N := 31) S hK hP 0 rfl rfl 10 (Nat.le_of_ble_eq_true rfl) zf_11 zw_156 rfl dX11_status_25 ?_
    refine lv_iload_n hx hb dX11_status_28 rfl (lv_at hl 1 rfl) ?_
    obtain ⟨h3, hg⟩ := zck hg
    refine ziald hx hb hK hP 1 0 rfl rfl (j := (x1.toNatClampNeg)) h3 rfl dX11_status_29 ?_
    exact hret (a_M_refused (x1.toNatClampNeg)) a_M_refused hg _ _ _ _ hP hS dX11_status_30
  · have hg := zp hg h9
    refine lv_aload_n hx hb dX11_status_12 rfl (lv_at hl 0 rfl) ?_
    refine zget (C := RX11) (T := TX11) (N := 31) S hK hP 0 rfl rfl 10 (Nat.le_of_ble_eq_true rfl) zf_11 zw_156 rfl dX11_status_13 ?_
    refine lv_iconst (v := 0) hx hb dX11_status_16 (by decide) ?_
    refine lv_dup2_11 hx hb dX11_status_17 rfl rfl ?_
    refine ziald hx hb hK hP 1 0 rfl rfl (j := 0) (zin (by decide)) (by decide) dX11_status_18 ?_
    refine lv_iconst (v := 1) hx hb dX11_status_19 (by decide) ?_
    refine lv_iadd hx hb dX11_status_20 ?_
    refine ziast hx hb hK hP hD hS 1 0 rfl rfl (j := 0) (zin (by decide)) (by decide) dX11_status_21 (w2 := (ws_X11_status cI cJ cZ cA q_M q_M_refused u_M_now u_M_images u_M_kept u_M_text u_M_size u_M_sign u_M_manyAbove u_M_manyBelow u_M_above u_M_below u_M_at u_M_begin u_M_kind u_M_value u_M_read u_M_acts u_M_act u_M_waits u_M_wait u_M_held u_M_place u_M_heap u_M_clocks u_M_counts u_M_talking u_M_most u_M_hasA u_M_hasB u_M_talks u_M_big (upd a_M_refused 0 ((a_M_refused 0) + 1)))) rfl (fun H locs hP hD hS => ?_)
    refine lv_iconst (v := (-1)) hx hb dX11_status_22 (by decide) ?_
    exact hret (-1) (upd a_M_refused 0 ((a_M_refused 0) + 1)) hg _ _ _ _ hP hS dX11_status_23

/-! SpokenClockModel.counted(I)I -/
abbrev ws_X11_counted (cI cJ cZ cA : ClassId) (q_M q_M_now : Nat) (u_M_images : Value) (u_M_kept : Value) (u_M_text : Value) (u_M_sign : Value) (u_M_manyAbove : Value) (u_M_manyBelow : Value) (u_M_above : Value) (u_M_below : Value) (u_M_refused : Value) (u_M_at : Value) (u_M_begin : Value) (u_M_kind : Value) (u_M_value : Value) (u_M_read : Value) (u_M_acts : Value) (u_M_act : Value) (u_M_waits : Value) (u_M_wait : Value) (u_M_held : Value) (u_M_place : Value) (u_M_heap : Value) (u_M_clocks : Value) (u_M_counts : Value) (u_M_talking : Value) (u_M_most : Value) (u_M_hasA : Value) (u_M_hasB : Value) (u_M_talks : Value) (u_M_big : Value) (v_M_size : Int32) (a_M_now : Nat → Int32) : va_W := [(q_M, .inr (11, [.ref q_M_now, u_M_images, u_M_kept, u_M_text, .int v_M_size, u_M_sign, u_M_manyAbove, u_M_manyBelow, u_M_above, u_M_below, u_M_refused, u_M_at, u_M_begin, u_M_kind, u_M_value, u_M_read, u_M_acts, u_M_act, u_M_waits, u_M_wait, u_M_held, u_M_place, u_M_heap, u_M_clocks, u_M_counts, u_M_talking, u_M_most, u_M_hasA, u_M_hasB, u_M_talks, u_M_big])), (q_M_now, .inl (cI, 155, .inl a_M_now))]
abbrev rm_X11_counted : Room := { frames := 0, cells := 0, slots := 0, locals := 0 }
def g_X11_counted (v_M_size : Int32) (a_M_now : Nat → Int32) (x1 : Int32) : Option (Int32) :=
  if 4 ≤ x1 then (
    if x1 = 4 then (
      some (v_M_size)
    ) else (
      some (a_M_now 7)
    )
  ) else (
    if (3 + x1) < 0 ∨ 155 ≤ (3 + x1).toNatClampNeg then none else
    some (a_M_now ((3 + x1).toNatClampNeg))
  )
theorem hd_X11_counted : yX11_counted.cls = RX11 ∧ yX11_counted.cls ≠ "java/lang/invoke/MethodHandle" ∧ yX11_counted.cls ≠ "java/lang/invoke/VarHandle" ∧ (parseMethodDescriptor yX11_counted.desc).map (fun d => d.parameters.length) = some 1 := by decide +kernel
set_option maxHeartbeats 4000000 in
set_option maxRecDepth 100000 in
theorem c_X11_counted (l : Launch) (D : va_G) (cI cJ cZ cA : ClassId) (ga : Nat → Nat) (q_M q_M_now : Nat) (u_M_images : Value) (u_M_kept : Value) (u_M_text : Value) (u_M_sign : Value) (u_M_manyAbove : Value) (u_M_manyBelow : Value) (u_M_above : Value) (u_M_below : Value) (u_M_refused : Value) (u_M_at : Value) (u_M_begin : Value) (u_M_kind : Value) (u_M_value : Value) (u_M_read : Value) (u_M_acts : Value) (u_M_act : Value) (u_M_waits : Value) (u_M_wait : Value) (u_M_held : Value) (u_M_place : Value) (u_M_heap : Value) (u_M_clocks : Value) (u_M_counts : Value) (u_M_talking : Value) (u_M_most : Value) (u_M_hasA : Value) (u_M_hasB : Value) (u_M_talks : Value) (u_M_big : Value) (v_M_size : Int32) (a_M_now : Nat → Int32) (x1 : Int32) (o : Int32) (hg : g_X11_counted v_M_size a_M_now x1 = some o) : zM l yX11_counted (Cond.code yX11_counted cX11_counted 2 (some .int) :: wsL_law) rm_X11_counted D (zTy cI cJ cZ cA) ga [.ref q_M, .int x1] (ws_X11_counted cI cJ cZ cA q_M q_M_now u_M_images u_M_kept u_M_text u_M_sign u_M_manyAbove u_M_manyBelow u_M_above u_M_below u_M_refused u_M_at u_M_begin u_M_kind u_M_value u_M_read u_M_acts u_M_act u_M_waits u_M_wait u_M_held u_M_place u_M_heap u_M_clocks u_M_counts u_M_talking u_M_most u_M_hasA u_M_hasB u_M_talks u_M_big v_M_size a_M_now) (ws_X11_counted cI cJ cZ cA q_M q_M_now u_M_images u_M_kept u_M_text u_M_sign u_M_manyAbove u_M_manyBelow u_M_above u_M_below u_M_refused u_M_at u_M_begin u_M_kind u_M_value u_M_read u_M_acts u_M_act u_M_waits u_M_wait u_M_held u_M_place u_M_heap u_M_clocks u_M_counts u_M_talking u_M_most u_M_hasA u_M_hasB u_M_talks u_M_big v_M_size a_M_now) (some (.int o)) := by
  refine zenterI (own := RX11) (by decide) rfl rfl (Nat.le_of_ble_eq_true rfl) ?_
  intro p e s m args below meth c A ls Q S hA hK hG hl hP hD hS hret0
  have hx := S.1
  have hb := S.2.1
  have ht : ∀ w, w ∈ wsL_law → w.before args s = true := fun w h => S.2.2.2.2 w (List.mem_cons_of_mem _ h)
  have hret : ∀ (r9 : Int32), (some (r9) : Option (Int32)) = some o → ∀ (H : Heap) (locs : List Loc) (pc : Nat) (ls : Array Slot), va_P D vwCl (ws_X11_counted cI cJ cZ cA q_M q_M_now u_M_images u_M_kept u_M_text u_M_sign u_M_manyAbove u_M_manyBelow u_M_above u_M_below u_M_refused u_M_at u_M_begin u_M_kind u_M_value u_M_read u_M_acts u_M_act u_M_waits u_M_wait u_M_held u_M_place u_M_heap u_M_clocks u_M_counts u_M_talking u_M_most u_M_hasA u_M_hasB u_M_talks u_M_big v_M_size a_M_now) H → va_S A s.heap H locs → decode cX11_counted pc = .ok (.ireturn, 1) → W p l e rm_X11_counted s m args below meth c H locs 0 0 Q (F0 m pc ls [.int r9]) := by
    intro r9 he; cases he; exact hret0
  have hl : lv_has ls 2 [(0, .ref q_M), (1, .int x1)] := hl
  refine lv_iload_n hx hb dX11_counted_0 rfl (lv_at hl 1 rfl) ?_
  refine lv_iconst (v := 4) hx hb dX11_counted_1 (by decide) ?_
  refine lv_icmp_ge (tgt := 16) hx hb dX11_counted_2 (by decide) (fun h2 => ?_) (fun h2 => ?_)
  · have hg := zp hg h2
    refine lv_iload_n hx hb dX11_counted_16 rfl (lv_at hl 1 rfl) ?_
    refine lv_iconst (v := 4) hx hb dX11_counted_17 (by decide) ?_
    refine lv_icmp_ne (tgt := 28) hx hb dX11_counted_18 (by decide) (fun h18 => ?_) (fun h18 => ?_)
    · have hg := zn hg h18
      refine lv_aload_n hx hb dX11_counted_28 rfl (lv_at hl 0 rfl) ?_
      refine zget (C := RX11) (T := TX11) (N := 31) S hK hP 0 rfl rfl 0 (Nat.le_of_ble_eq_true rfl) zf_11 zw_149 rfl dX11_counted_29 ?_
      refine lv_bipush (v := 7) hx hb dX11_counted_32 (by decide) ?_
      refine ziald hx hb hK hP 1 0 rfl rfl (j := 7) (zin (by decide)) (by decide) dX11_counted_34 ?_
      exact hret (a_M_now 7) hg _ _ _ _ hP hS dX11_counted_35
    · have hg := zp hg h18
      refine lv_aload_n hx hb dX11_counted_21 rfl (lv_at hl 0 rfl) ?_
      refine zget (C := RX11) (T := TX11) (N := 31) S hK hP 0 rfl rfl 4 (Nat.le_of_ble_eq_true rfl) zf_11 zw_308 rfl dX11_counted_22 ?_
      refine lv_goto (tgt := 35) hx hb dX11_counted_25 (by decide) ?_
      exact hret v_M_size hg _ _ _ _ hP hS dX11_counted_35
  · have hg := zn hg h2
    refine lv_aload_n hx hb dX11_counted_5 rfl (lv_at hl 0 rfl) ?_
    refine zget (C := RX11) (T := TX11) (N := 31) S hK hP 0 rfl rfl 0 (Nat.le_of_ble_eq_true rfl) zf_11 zw_149 rfl dX11_counted_6 ?_
    refine lv_iconst (v := 3) hx hb dX11_counted_9 (by decide) ?_
    refine lv_iload_n hx hb dX11_counted_10 rfl (lv_at hl 1 rfl) ?_
    refine lv_iadd hx hb dX11_counted_11 ?_
    obtain ⟨h1, hg⟩ := zck hg
    refine ziald hx hb hK hP 1 0 rfl rfl (j := ((3 + x1).toNatClampNeg)) h1 rfl dX11_counted_12 ?_
    refine lv_goto (tgt := 35) hx hb dX11_counted_13 (by decide) ?_
    exact hret (a_M_now ((3 + x1).toNatClampNeg)) hg _ _ _ _ hP hS dX11_counted_35

/-! SpokenClockModel.count(I)I -/
abbrev ws_X11_count (cI cJ cZ cA : ClassId) (q_M q_M_refused q_M_now : Nat) (u_M_images : Value) (u_M_kept : Value) (u_M_text : Value) (u_M_sign : Value) (u_M_manyAbove : Value) (u_M_manyBelow : Value) (u_M_above : Value) (u_M_below : Value) (u_M_at : Value) (u_M_begin : Value) (u_M_kind : Value) (u_M_value : Value) (u_M_read : Value) (u_M_acts : Value) (u_M_act : Value) (u_M_waits : Value) (u_M_wait : Value) (u_M_held : Value) (u_M_place : Value) (u_M_heap : Value) (u_M_clocks : Value) (u_M_counts : Value) (u_M_talking : Value) (u_M_most : Value) (u_M_hasA : Value) (u_M_hasB : Value) (u_M_talks : Value) (u_M_big : Value) (v_M_size : Int32) (a_M_refused : Nat → Int32) (a_M_now : Nat → Int32) : va_W := [(q_M, .inr (11, [.ref q_M_now, u_M_images, u_M_kept, u_M_text, .int v_M_size, u_M_sign, u_M_manyAbove, u_M_manyBelow, u_M_above, u_M_below, .ref q_M_refused, u_M_at, u_M_begin, u_M_kind, u_M_value, u_M_read, u_M_acts, u_M_act, u_M_waits, u_M_wait, u_M_held, u_M_place, u_M_heap, u_M_clocks, u_M_counts, u_M_talking, u_M_most, u_M_hasA, u_M_hasB, u_M_talks, u_M_big])), (q_M_refused, .inl (cI, 3, .inl a_M_refused)), (q_M_now, .inl (cI, 155, .inl a_M_now))]
abbrev rm_X11_count : Room := { frames := 1, cells := 0, slots := 0, locals := 25 }
def g_X11_count (v_M_size : Int32) (a_M_now : Nat → Int32) (x1 : Int32) (a_M_refused : Nat → Int32) : Option (Int32 × (Nat → Int32)) :=
  (g_X11_in x1.toInt64 (0 : Int64) (5 : Int64)).bind fun v1 =>
  if v1 = 0 then (
    (g_X11_refuse (-2) a_M_refused).bind fun v3 =>
    some (v3.1, v3.2)
  ) else (
    (g_X11_counted v_M_size a_M_now x1).bind fun v5 =>
    some (v5, a_M_refused)
  )
theorem hd_X11_count : yX11_count.cls = RX11 ∧ yX11_count.cls ≠ "java/lang/invoke/MethodHandle" ∧ yX11_count.cls ≠ "java/lang/invoke/VarHandle" ∧ (parseMethodDescriptor yX11_count.desc).map (fun d => d.parameters.length) = some 1 := by decide +kernel
set_option maxHeartbeats 4000000 in
set_option maxRecDepth 100000 in
theorem c_X11_count (l : Launch) (D : va_G) (cI cJ cZ cA : ClassId) (ga : Nat → Nat) (q_M q_M_refused q_M_now : Nat) (u_M_images : Value) (u_M_kept : Value) (u_M_text : Value) (u_M_sign : Value) (u_M_manyAbove : Value) (u_M_manyBelow : Value) (u_M_above : Value) (u_M_below : Value) (u_M_at : Value) (u_M_begin : Value) (u_M_kind : Value) (u_M_value : Value) (u_M_read : Value) (u_M_acts : Value) (u_M_act : Value) (u_M_waits : Value) (u_M_wait : Value) (u_M_held : Value) (u_M_place : Value) (u_M_heap : Value) (u_M_clocks : Value) (u_M_counts : Value) (u_M_talking : Value) (u_M_most : Value) (u_M_hasA : Value) (u_M_hasB : Value) (u_M_talks : Value) (u_M_big : Value) (v_M_size : Int32) (a_M_refused : Nat → Int32) (a_M_now : Nat → Int32) (x1 : Int32) (o : Int32 × (Nat → Int32)) (hg : g_X11_count v_M_size a_M_now x1 a_M_refused = some o) : zM l yX11_count (Cond.code yX11_count cX11_count 2 (some .int) :: wsL_law) rm_X11_count D (zTy cI cJ cZ cA) ga [.ref q_M, .int x1] (ws_X11_count cI cJ cZ cA q_M q_M_refused q_M_now u_M_images u_M_kept u_M_text u_M_sign u_M_manyAbove u_M_manyBelow u_M_above u_M_below u_M_at u_M_begin u_M_kind u_M_value u_M_read u_M_acts u_M_act u_M_waits u_M_wait u_M_held u_M_place u_M_heap u_M_clocks u_M_counts u_M_talking u_M_most u_M_hasA u_M_hasB u_M_talks u_M_big v_M_size a_M_refused a_M_now) (ws_X11_count cI cJ cZ cA q_M q_M_refused q_M_now u_M_images u_M_kept u_M_text u_M_sign u_M_manyAbove u_M_manyBelow u_M_above u_M_below u_M_at u_M_begin u_M_kind u_M_value u_M_read u_M_acts u_M_act u_M_waits u_M_wait u_M_held u_M_place u_M_heap u_M_clocks u_M_counts u_M_talking u_M_most u_M_hasA u_M_hasB u_M_talks u_M_big v_M_size o.2 a_M_now) (some (.int o.1)) := by
  refine zenterI (own := RX11) (by decide) rfl rfl (Nat.le_of_ble_eq_true rfl) ?_
  intro p e s m args below meth c A ls Q S hA hK hG hl hP hD hS hret0
  have hx := S.1
  have hb := S.2.1
  have ht : ∀ w, w ∈ wsL_law → w.before args s = true := fun w h => S.2.2.2.2 w (List.mem_cons_of_mem _ h)
  have hret : ∀ (r9 : Int32) (a_M_refused : Nat → Int32), (some (r9, a_M_refused) : Option (Int32 × (Nat → Int32))) = some o → ∀ (H : Heap) (locs : List Loc) (pc : Nat) (ls : Array Slot), va_P D vwCl (ws_X11_count cI cJ cZ cA q_M q_M_refused q_M_now u_M_images u_M_kept u_M_text u_M_sign u_M_manyAbove u_M_manyBelow u_M_above u_M_below u_M_at u_M_begin u_M_kind u_M_value u_M_read u_M_acts u_M_act u_M_waits u_M_wait u_M_held u_M_place u_M_heap u_M_clocks u_M_counts u_M_talking u_M_most u_M_hasA u_M_hasB u_M_talks u_M_big v_M_size a_M_refused a_M_now) H → va_S A s.heap H locs → decode cX11_count pc = .ok (.ireturn, 1) → W p l e rm_X11_count s m args below meth c H locs 0 0 Q (F0 m pc ls [.int r9]) := by
    intro r9 a_M_refused he; cases he; exact hret0
  have hl : lv_has ls 2 [(0, .ref q_M), (1, .int x1)] := hl
  refine lv_iload_n hx hb dX11_count_0 rfl (lv_at hl 1 rfl) ?_
  refine lv_i2l hx hb dX11_count_1 rfl ?_
  refine lv_lconst (v := 0) hx hb dX11_count_2 (by decide) ?_
  refine lv_ldc2 (v := 5) hx hb S.2.2.2.1 (ht _ zw_253) dX11_count_3 ?_
  obtain ⟨v1, hc2, hg⟩ := zbd hg
  refine zcallS (rest := []) S (c_X11_in l D cI cJ cZ cA ga x1.toInt64 (0 : Int64) (5 : Int64) v1 hc2) (zgS zw_220 zw_221 zw_5 zw_222) rfl hd_X11_in ⟨rfl, rfl⟩ ⟨Nat.le_of_ble_eq_true rfl, Nat.le_of_ble_eq_true rfl⟩ rfl hl.1 rfl (Nat.le_of_ble_eq_true rfl) dX11_count_6 hP hD hS hA hK hG (isC := []) rfl (by decide +kernel) rfl ⟨Nat.zero_le _, Nat.zero_le _⟩ (pl := [none, none, none]) (nw := 3) rfl (by decide +kernel) (w2 := (ws_X11_count cI cJ cZ cA q_M q_M_refused q_M_now u_M_images u_M_kept u_M_text u_M_sign u_M_manyAbove u_M_manyBelow u_M_above u_M_below u_M_at u_M_begin u_M_kind u_M_value u_M_read u_M_acts u_M_act u_M_waits u_M_wait u_M_held u_M_place u_M_heap u_M_clocks u_M_counts u_M_talking u_M_most u_M_hasA u_M_hasB u_M_talks u_M_big v_M_size a_M_refused a_M_now)) rfl (st1 := [.int v1]) rfl (fun H locs hP hD hS => ?_)
  refine lv_if_eq (tgt := 20) hx hb dX11_count_9 (by decide) (fun h9 => ?_) (fun h9 => ?_)
  · have hg := zp hg h9
    refine lv_aload_n hx hb dX11_count_20 rfl (lv_at hl 0 rfl) ?_
    refine lv_bipush (v := (-2)) hx hb dX11_count_21 (by decide) ?_
    obtain ⟨v3, hc4, hg⟩ := zbd hg
    refine zcallV (rest := []) S (c_X11_refuse l D cI cJ cZ cA ga q_M q_M_refused (.ref q_M_now) u_M_images u_M_kept u_M_text (.int v_M_size) u_M_sign u_M_manyAbove u_M_manyBelow u_M_above u_M_below u_M_at u_M_begin u_M_kind u_M_value u_M_read u_M_acts u_M_act u_M_waits u_M_wait u_M_held u_M_place u_M_heap u_M_clocks u_M_counts u_M_talking u_M_most u_M_hasA u_M_hasB u_M_talks u_M_big a_M_refused (-2) v3 hc4) (zgV zw_223 zw_224 zw_225 zw_5 zw_226) rfl hd_X11_refuse ⟨rfl, rfl⟩ ⟨Nat.le_of_ble_eq_true rfl, Nat.le_of_ble_eq_true rfl⟩ 0 11 rfl rfl rfl hl.1 rfl (Nat.le_of_ble_eq_true rfl) dX11_count_23 hP hD hS hA hK hG (isC := [0, 1]) rfl (by decide +kernel) rfl ⟨Nat.zero_le _, Nat.zero_le _⟩ (pl := [some 0, some 1, none]) (nw := 3) rfl (by decide +kernel) (w2 := (ws_X11_count cI cJ cZ cA q_M q_M_refused q_M_now u_M_images u_M_kept u_M_text u_M_sign u_M_manyAbove u_M_manyBelow u_M_above u_M_below u_M_at u_M_begin u_M_kind u_M_value u_M_read u_M_acts u_M_act u_M_waits u_M_wait u_M_held u_M_place u_M_heap u_M_clocks u_M_counts u_M_talking u_M_most u_M_hasA u_M_hasB u_M_talks u_M_big v_M_size v3.2 a_M_now)) rfl (st1 := [.int v3.1]) rfl (fun H locs hP hD hS => ?_)
    exact hret v3.1 v3.2 hg _ _ _ _ hP hS dX11_count_26
  · have hg := zn hg h9
    refine lv_aload_n hx hb dX11_count_12 rfl (lv_at hl 0 rfl) ?_
    refine lv_iload_n hx hb dX11_count_13 rfl (lv_at hl 1 rfl) ?_
    obtain ⟨v5, hc6, hg⟩ := zbd hg
    refine zcallV (rest := []) S (c_X11_counted l D cI cJ cZ cA ga q_M q_M_now u_M_images u_M_kept u_M_text u_M_sign u_M_manyAbove u_M_manyBelow u_M_above u_M_below (.ref q_M_refused) u_M_at u_M_begin u_M_kind u_M_value u_M_read u_M_acts u_M_act u_M_waits u_M_wait u_M_held u_M_place u_M_heap u_M_clocks u_M_counts u_M_talking u_M_most u_M_hasA u_M_hasB u_M_talks u_M_big v_M_size a_M_now x1 v5 hc6) (zgV zw_1054 zw_1055 zw_1056 zw_5 zw_1057) rfl hd_X11_counted ⟨rfl, rfl⟩ ⟨Nat.le_of_ble_eq_true rfl, Nat.le_of_ble_eq_true rfl⟩ 0 11 rfl rfl rfl hl.1 rfl (Nat.le_of_ble_eq_true rfl) dX11_count_14 hP hD hS hA hK hG (isC := [0, 2]) rfl (by decide +kernel) rfl ⟨Nat.zero_le _, Nat.zero_le _⟩ (pl := [some 0, none, some 1]) (nw := 3) rfl (by decide +kernel) (w2 := (ws_X11_count cI cJ cZ cA q_M q_M_refused q_M_now u_M_images u_M_kept u_M_text u_M_sign u_M_manyAbove u_M_manyBelow u_M_above u_M_below u_M_at u_M_begin u_M_kind u_M_value u_M_read u_M_acts u_M_act u_M_waits u_M_wait u_M_held u_M_place u_M_heap u_M_clocks u_M_counts u_M_talking u_M_most u_M_hasA u_M_hasB u_M_talks u_M_big v_M_size a_M_refused a_M_now)) rfl (st1 := [.int v5]) rfl (fun H locs hP hD hS => ?_)
    refine lv_goto (tgt := 26) hx hb dX11_count_17 (by decide) ?_
    exact hret v5 a_M_refused hg _ _ _ _ hP hS dX11_count_26

/-! SpokenClockModel.mixed(JJ)J -/
abbrev ws_X11_mixed (cI cJ cZ cA : ClassId) : va_W := []
abbrev rm_X11_mixed : Room := { frames := 0, cells := 0, slots := 0, locals := 0 }
def g_X11_mixed (x0 : Int64) (x2 : Int64) : Option (Int64) :=
  some (((31 : Int64) * x0) + x2)
theorem hd_X11_mixed : yX11_mixed.cls ≠ "java/lang/invoke/MethodHandle" ∧ yX11_mixed.cls ≠ "java/lang/invoke/VarHandle" ∧ (parseMethodDescriptor yX11_mixed.desc).map (fun d => d.parameters.length) = some 2 := by decide +kernel
set_option maxHeartbeats 4000000 in
set_option maxRecDepth 100000 in
theorem c_X11_mixed (l : Launch) (D : va_G) (cI cJ cZ cA : ClassId) (ga : Nat → Nat) (x0 : Int64) (x2 : Int64) (o : Int64) (hg : g_X11_mixed x0 x2 = some o) : zM l yX11_mixed (Cond.code yX11_mixed cX11_mixed 4 (some .long) :: wsL_law) rm_X11_mixed D (zTy cI cJ cZ cA) ga [.long x0, .long x2] (ws_X11_mixed cI cJ cZ cA) (ws_X11_mixed cI cJ cZ cA) (some (.long o)) := by
  refine zenterL (own := RX11) (by decide) rfl rfl (Nat.le_of_ble_eq_true rfl) ?_
  intro p e s m args below meth c A ls Q S hA hK hG hl hP hD hS hret0
  have hx := S.1
  have hb := S.2.1
  have ht : ∀ w, w ∈ wsL_law → w.before args s = true := fun w h => S.2.2.2.2 w (List.mem_cons_of_mem _ h)
  have hret : ∀ (r9 : Int64), (some (r9) : Option (Int64)) = some o → ∀ (H : Heap) (locs : List Loc) (pc : Nat) (ls : Array Slot), va_P D vwCl (ws_X11_mixed cI cJ cZ cA) H → va_S A s.heap H locs → decode cX11_mixed pc = .ok (.lreturn, 1) → W p l e rm_X11_mixed s m args below meth c H locs 0 0 Q (F0 m pc ls [.long r9]) := by
    intro r9 he; cases he; exact hret0
  have hl : lv_has ls 4 [(0, .long x0), (2, .long x2)] := hl
  refine lv_ldc2 (v := 31) hx hb S.2.2.2.1 (ht _ zw_1096) dX11_mixed_0 ?_
  refine lv_lload_n hx hb dX11_mixed_3 rfl (lv_at hl 0 rfl) ?_
  refine lv_lmul hx hb dX11_mixed_4 ?_
  refine lv_lload_n hx hb dX11_mixed_5 rfl (lv_at hl 1 rfl) ?_
  refine lv_ladd hx hb dX11_mixed_6 ?_
  exact hret (((31 : Int64) * x0) + x2) hg _ _ _ _ hP hS dX11_mixed_7

/-! SpokenClockModel.digest()J -/
abbrev ws_X11_digest (cI cJ cZ cA : ClassId) (q_M q_M_now q_M_below q_M_above : Nat) (u_M_images : Value) (u_M_kept : Value) (u_M_text : Value) (u_M_refused : Value) (u_M_at : Value) (u_M_begin : Value) (u_M_kind : Value) (u_M_value : Value) (u_M_read : Value) (u_M_acts : Value) (u_M_act : Value) (u_M_waits : Value) (u_M_wait : Value) (u_M_held : Value) (u_M_place : Value) (u_M_heap : Value) (u_M_clocks : Value) (u_M_counts : Value) (u_M_talking : Value) (u_M_most : Value) (u_M_hasA : Value) (u_M_hasB : Value) (u_M_talks : Value) (u_M_big : Value) (v_M_size : Int32) (v_M_sign : Int32) (v_M_manyAbove : Int32) (v_M_manyBelow : Int32) (a_M_now : Nat → Int32) (a_M_below : Nat → Int32) (a_M_above : Nat → Int32) : va_W := [(q_M, .inr (11, [.ref q_M_now, u_M_images, u_M_kept, u_M_text, .int v_M_size, .int v_M_sign, .int v_M_manyAbove, .int v_M_manyBelow, .ref q_M_above, .ref q_M_below, u_M_refused, u_M_at, u_M_begin, u_M_kind, u_M_value, u_M_read, u_M_acts, u_M_act, u_M_waits, u_M_wait, u_M_held, u_M_place, u_M_heap, u_M_clocks, u_M_counts, u_M_talking, u_M_most, u_M_hasA, u_M_hasB, u_M_talks, u_M_big])), (q_M_now, .inl (cI, 155, .inl a_M_now)), (q_M_below, .inl (cI, 8, .inl a_M_below)), (q_M_above, .inl (cI, 8, .inl a_M_above))]
abbrev rm_X11_digest : Room := { frames := 1, cells := 0, slots := 0, locals := 23 }
def g_X11_digest_384b (v_M_size : Int32) (v_M_sign : Int32) (v_M_manyAbove : Int32) (v_M_manyBelow : Int32) (a_M_now : Nat → Int32) (a_M_below : Nat → Int32) (a_M_above : Nat → Int32) (k384 : Int64 → Int32 → Option (Int64)) (x1 : Int64) (x3 : Int32) : Option (Int64) :=
  if v_M_manyBelow ≤ x3 then (
    some (x1)
  ) else (
    if x3 < 0 ∨ 8 ≤ x3.toNatClampNeg then none else
    (g_X11_mixed x1 ((a_M_below (x3.toNatClampNeg)).toInt64)).bind fun v8 =>
    k384 v8 (x3 + 1)
  )
def g_X11_digest_384 (v_M_size : Int32) (v_M_sign : Int32) (v_M_manyAbove : Int32) (v_M_manyBelow : Int32) (a_M_now : Nat → Int32) (a_M_below : Nat → Int32) (a_M_above : Nat → Int32) : Nat → Int64 → Int32 → Option (Int64)
  | 0, _, _ => none
  | n + 1, x1, x3 => g_X11_digest_384b v_M_size v_M_sign v_M_manyAbove v_M_manyBelow a_M_now a_M_below a_M_above (g_X11_digest_384 v_M_size v_M_sign v_M_manyAbove v_M_manyBelow a_M_now a_M_below a_M_above n) x1 x3
def g_X11_digest_356b (v_M_size : Int32) (v_M_sign : Int32) (v_M_manyAbove : Int32) (v_M_manyBelow : Int32) (a_M_now : Nat → Int32) (a_M_below : Nat → Int32) (a_M_above : Nat → Int32) (k356 : Int64 → Int32 → Option (Int64)) (x1 : Int64) (x3 : Int32) : Option (Int64) :=
  if v_M_manyAbove ≤ x3 then (
    g_X11_digest_384 v_M_size v_M_sign v_M_manyAbove v_M_manyBelow a_M_now a_M_below a_M_above zF x1 0
  ) else (
    if x3 < 0 ∨ 8 ≤ x3.toNatClampNeg then none else
    (g_X11_mixed x1 ((a_M_above (x3.toNatClampNeg)).toInt64)).bind fun v11 =>
    k356 v11 (x3 + 1)
  )
def g_X11_digest_356 (v_M_size : Int32) (v_M_sign : Int32) (v_M_manyAbove : Int32) (v_M_manyBelow : Int32) (a_M_now : Nat → Int32) (a_M_below : Nat → Int32) (a_M_above : Nat → Int32) : Nat → Int64 → Int32 → Option (Int64)
  | 0, _, _ => none
  | n + 1, x1, x3 => g_X11_digest_356b v_M_size v_M_sign v_M_manyAbove v_M_manyBelow a_M_now a_M_below a_M_above (g_X11_digest_356 v_M_size v_M_sign v_M_manyAbove v_M_manyBelow a_M_now a_M_below a_M_above n) x1 x3
def g_X11_digest_296b (v_M_size : Int32) (v_M_sign : Int32) (v_M_manyAbove : Int32) (v_M_manyBelow : Int32) (a_M_now : Nat → Int32) (a_M_below : Nat → Int32) (a_M_above : Nat → Int32) (k296 : Int64 → Int32 → Option (Int64)) (x1 : Int64) (x3 : Int32) : Option (Int64) :=
  if (a_M_now 7) ≤ x3 then (
    (g_X11_mixed x1 v_M_sign.toInt64).bind fun v1 =>
    (g_X11_mixed v1 v_M_manyAbove.toInt64).bind fun v3 =>
    (g_X11_mixed v3 v_M_manyBelow.toInt64).bind fun v5 =>
    g_X11_digest_356 v_M_size v_M_sign v_M_manyAbove v_M_manyBelow a_M_now a_M_below a_M_above zF v5 0
  ) else (
    if (115 + x3) < 0 ∨ 155 ≤ (115 + x3).toNatClampNeg then none else
    (g_X11_mixed x1 ((a_M_now ((115 + x3).toNatClampNeg)).toInt64)).bind fun v14 =>
    k296 v14 (x3 + 1)
  )
def g_X11_digest_296 (v_M_size : Int32) (v_M_sign : Int32) (v_M_manyAbove : Int32) (v_M_manyBelow : Int32) (a_M_now : Nat → Int32) (a_M_below : Nat → Int32) (a_M_above : Nat → Int32) : Nat → Int64 → Int32 → Option (Int64)
  | 0, _, _ => none
  | n + 1, x1, x3 => g_X11_digest_296b v_M_size v_M_sign v_M_manyAbove v_M_manyBelow a_M_now a_M_below a_M_above (g_X11_digest_296 v_M_size v_M_sign v_M_manyAbove v_M_manyBelow a_M_now a_M_below a_M_above n) x1 x3
def g_X11_digest_270b (v_M_size : Int32) (v_M_sign : Int32) (v_M_manyAbove : Int32) (v_M_manyBelow : Int32) (a_M_now : Nat → Int32) (a_M_below : Nat → Int32) (a_M_above : Nat → Int32) (k270 : Int64 → Int32 → Option (Int64)) (x1 : Int64) (x3 : Int32) : Option (Int64) :=
  if 12 < x3 then (
    g_X11_digest_296 v_M_size v_M_sign v_M_manyAbove v_M_manyBelow a_M_now a_M_below a_M_above zF x1 0
  ) else (
    if x3 < 0 ∨ 155 ≤ x3.toNatClampNeg then none else
    (g_X11_mixed x1 ((a_M_now (x3.toNatClampNeg)).toInt64)).bind fun v17 =>
    k270 v17 (x3 + 1)
  )
def g_X11_digest_270 (v_M_size : Int32) (v_M_sign : Int32) (v_M_manyAbove : Int32) (v_M_manyBelow : Int32) (a_M_now : Nat → Int32) (a_M_below : Nat → Int32) (a_M_above : Nat → Int32) : Nat → Int64 → Int32 → Option (Int64)
  | 0, _, _ => none
  | n + 1, x1, x3 => g_X11_digest_270b v_M_size v_M_sign v_M_manyAbove v_M_manyBelow a_M_now a_M_below a_M_above (g_X11_digest_270 v_M_size v_M_sign v_M_manyAbove v_M_manyBelow a_M_now a_M_below a_M_above n) x1 x3
def g_X11_digest_222b (v_M_size : Int32) (v_M_sign : Int32) (v_M_manyAbove : Int32) (v_M_manyBelow : Int32) (a_M_now : Nat → Int32) (a_M_below : Nat → Int32) (a_M_above : Nat → Int32) (k222 : Int64 → Int32 → Option (Int64)) (x1 : Int64) (x3 : Int32) : Option (Int64) :=
  if (a_M_now 6) ≤ x3 then (
    g_X11_digest_270 v_M_size v_M_sign v_M_manyAbove v_M_manyBelow a_M_now a_M_below a_M_above zF x1 8
  ) else (
    if (95 + x3) < 0 ∨ 155 ≤ (95 + x3).toNatClampNeg then none else
    (g_X11_mixed x1 ((a_M_now ((95 + x3).toNatClampNeg)).toInt64)).bind fun v20 =>
    if (105 + x3) < 0 ∨ 155 ≤ (105 + x3).toNatClampNeg then none else
    (g_X11_mixed v20 ((a_M_now ((105 + x3).toNatClampNeg)).toInt64)).bind fun v23 =>
    k222 v23 (x3 + 1)
  )
def g_X11_digest_222 (v_M_size : Int32) (v_M_sign : Int32) (v_M_manyAbove : Int32) (v_M_manyBelow : Int32) (a_M_now : Nat → Int32) (a_M_below : Nat → Int32) (a_M_above : Nat → Int32) : Nat → Int64 → Int32 → Option (Int64)
  | 0, _, _ => none
  | n + 1, x1, x3 => g_X11_digest_222b v_M_size v_M_sign v_M_manyAbove v_M_manyBelow a_M_now a_M_below a_M_above (g_X11_digest_222 v_M_size v_M_sign v_M_manyAbove v_M_manyBelow a_M_now a_M_below a_M_above n) x1 x3
def g_X11_digest_163b (v_M_size : Int32) (v_M_sign : Int32) (v_M_manyAbove : Int32) (v_M_manyBelow : Int32) (a_M_now : Nat → Int32) (a_M_below : Nat → Int32) (a_M_above : Nat → Int32) (k163 : Int64 → Int32 → Option (Int64)) (x1 : Int64) (x3 : Int32) : Option (Int64) :=
  if (a_M_now 5) ≤ x3 then (
    g_X11_digest_222 v_M_size v_M_sign v_M_manyAbove v_M_manyBelow a_M_now a_M_below a_M_above zF x1 0
  ) else (
    if (71 + x3) < 0 ∨ 155 ≤ (71 + x3).toNatClampNeg then none else
    (g_X11_mixed x1 ((a_M_now ((71 + x3).toNatClampNeg)).toInt64)).bind fun v26 =>
    if (79 + x3) < 0 ∨ 155 ≤ (79 + x3).toNatClampNeg then none else
    (g_X11_mixed v26 ((a_M_now ((79 + x3).toNatClampNeg)).toInt64)).bind fun v29 =>
    if (87 + x3) < 0 ∨ 155 ≤ (87 + x3).toNatClampNeg then none else
    (g_X11_mixed v29 ((a_M_now ((87 + x3).toNatClampNeg)).toInt64)).bind fun v32 =>
    k163 v32 (x3 + 1)
  )
def g_X11_digest_163 (v_M_size : Int32) (v_M_sign : Int32) (v_M_manyAbove : Int32) (v_M_manyBelow : Int32) (a_M_now : Nat → Int32) (a_M_below : Nat → Int32) (a_M_above : Nat → Int32) : Nat → Int64 → Int32 → Option (Int64)
  | 0, _, _ => none
  | n + 1, x1, x3 => g_X11_digest_163b v_M_size v_M_sign v_M_manyAbove v_M_manyBelow a_M_now a_M_below a_M_above (g_X11_digest_163 v_M_size v_M_sign v_M_manyAbove v_M_manyBelow a_M_now a_M_below a_M_above n) x1 x3
def g_X11_digest_104b (v_M_size : Int32) (v_M_sign : Int32) (v_M_manyAbove : Int32) (v_M_manyBelow : Int32) (a_M_now : Nat → Int32) (a_M_below : Nat → Int32) (a_M_above : Nat → Int32) (k104 : Int64 → Int32 → Option (Int64)) (x1 : Int64) (x3 : Int32) : Option (Int64) :=
  if (a_M_now 4) ≤ x3 then (
    g_X11_digest_163 v_M_size v_M_sign v_M_manyAbove v_M_manyBelow a_M_now a_M_below a_M_above zF x1 0
  ) else (
    if (23 + x3) < 0 ∨ 155 ≤ (23 + x3).toNatClampNeg then none else
    (g_X11_mixed x1 ((a_M_now ((23 + x3).toNatClampNeg)).toInt64)).bind fun v35 =>
    if (39 + x3) < 0 ∨ 155 ≤ (39 + x3).toNatClampNeg then none else
    (g_X11_mixed v35 ((a_M_now ((39 + x3).toNatClampNeg)).toInt64)).bind fun v38 =>
    if (55 + x3) < 0 ∨ 155 ≤ (55 + x3).toNatClampNeg then none else
    (g_X11_mixed v38 ((a_M_now ((55 + x3).toNatClampNeg)).toInt64)).bind fun v41 =>
    k104 v41 (x3 + 1)
  )
def g_X11_digest_104 (v_M_size : Int32) (v_M_sign : Int32) (v_M_manyAbove : Int32) (v_M_manyBelow : Int32) (a_M_now : Nat → Int32) (a_M_below : Nat → Int32) (a_M_above : Nat → Int32) : Nat → Int64 → Int32 → Option (Int64)
  | 0, _, _ => none
  | n + 1, x1, x3 => g_X11_digest_104b v_M_size v_M_sign v_M_manyAbove v_M_manyBelow a_M_now a_M_below a_M_above (g_X11_digest_104 v_M_size v_M_sign v_M_manyAbove v_M_manyBelow a_M_now a_M_below a_M_above n) x1 x3
def g_X11_digest_58b (v_M_size : Int32) (v_M_sign : Int32) (v_M_manyAbove : Int32) (v_M_manyBelow : Int32) (a_M_now : Nat → Int32) (a_M_below : Nat → Int32) (a_M_above : Nat → Int32) (k58 : Int64 → Int32 → Option (Int64)) (x1 : Int64) (x3 : Int32) : Option (Int64) :=
  if (a_M_now 3) ≤ x3 then (
    g_X11_digest_104 v_M_size v_M_sign v_M_manyAbove v_M_manyBelow a_M_now a_M_below a_M_above zF x1 0
  ) else (
    if (13 + x3) < 0 ∨ 155 ≤ (13 + x3).toNatClampNeg then none else
    (g_X11_mixed x1 ((a_M_now ((13 + x3).toNatClampNeg)).toInt64)).bind fun v44 =>
    if (18 + x3) < 0 ∨ 155 ≤ (18 + x3).toNatClampNeg then none else
    (g_X11_mixed v44 ((a_M_now ((18 + x3).toNatClampNeg)).toInt64)).bind fun v47 =>
    k58 v47 (x3 + 1)
  )
def g_X11_digest_58 (v_M_size : Int32) (v_M_sign : Int32) (v_M_manyAbove : Int32) (v_M_manyBelow : Int32) (a_M_now : Nat → Int32) (a_M_below : Nat → Int32) (a_M_above : Nat → Int32) : Nat → Int64 → Int32 → Option (Int64)
  | 0, _, _ => none
  | n + 1, x1, x3 => g_X11_digest_58b v_M_size v_M_sign v_M_manyAbove v_M_manyBelow a_M_now a_M_below a_M_above (g_X11_digest_58 v_M_size v_M_sign v_M_manyAbove v_M_manyBelow a_M_now a_M_below a_M_above n) x1 x3
def g_X11_digest_31b (v_M_size : Int32) (v_M_sign : Int32) (v_M_manyAbove : Int32) (v_M_manyBelow : Int32) (a_M_now : Nat → Int32) (a_M_below : Nat → Int32) (a_M_above : Nat → Int32) (k31 : Int64 → Int32 → Option (Int64)) (x1 : Int64) (x3 : Int32) : Option (Int64) :=
  if 3 ≤ x3 then (
    g_X11_digest_58 v_M_size v_M_sign v_M_manyAbove v_M_manyBelow a_M_now a_M_below a_M_above zF x1 0
  ) else (
    if (0 + x3) < 0 ∨ 155 ≤ (0 + x3).toNatClampNeg then none else
    (g_X11_mixed x1 ((a_M_now ((0 + x3).toNatClampNeg)).toInt64)).bind fun v50 =>
    k31 v50 (x3 + 1)
  )
def g_X11_digest_31 (v_M_size : Int32) (v_M_sign : Int32) (v_M_manyAbove : Int32) (v_M_manyBelow : Int32) (a_M_now : Nat → Int32) (a_M_below : Nat → Int32) (a_M_above : Nat → Int32) : Nat → Int64 → Int32 → Option (Int64)
  | 0, _, _ => none
  | n + 1, x1, x3 => g_X11_digest_31b v_M_size v_M_sign v_M_manyAbove v_M_manyBelow a_M_now a_M_below a_M_above (g_X11_digest_31 v_M_size v_M_sign v_M_manyAbove v_M_manyBelow a_M_now a_M_below a_M_above n) x1 x3
def g_X11_digest_6b (v_M_size : Int32) (v_M_sign : Int32) (v_M_manyAbove : Int32) (v_M_manyBelow : Int32) (a_M_now : Nat → Int32) (a_M_below : Nat → Int32) (a_M_above : Nat → Int32) (k6 : Int64 → Int32 → Option (Int64)) (x1 : Int64) (x3 : Int32) : Option (Int64) :=
  if 6 ≤ x3 then (
    g_X11_digest_31 v_M_size v_M_sign v_M_manyAbove v_M_manyBelow a_M_now a_M_below a_M_above zF x1 0
  ) else (
    (g_X11_counted v_M_size a_M_now x3).bind fun v52 =>
    (g_X11_mixed x1 v52.toInt64).bind fun v54 =>
    k6 v54 (x3 + 1)
  )
def g_X11_digest_6 (v_M_size : Int32) (v_M_sign : Int32) (v_M_manyAbove : Int32) (v_M_manyBelow : Int32) (a_M_now : Nat → Int32) (a_M_below : Nat → Int32) (a_M_above : Nat → Int32) : Nat → Int64 → Int32 → Option (Int64)
  | 0, _, _ => none
  | n + 1, x1, x3 => g_X11_digest_6b v_M_size v_M_sign v_M_manyAbove v_M_manyBelow a_M_now a_M_below a_M_above (g_X11_digest_6 v_M_size v_M_sign v_M_manyAbove v_M_manyBelow a_M_now a_M_below a_M_above n) x1 x3
def g_X11_digest (v_M_size : Int32) (v_M_sign : Int32) (v_M_manyAbove : Int32) (v_M_manyBelow : Int32) (a_M_now : Nat → Int32) (a_M_below : Nat → Int32) (a_M_above : Nat → Int32) : Option (Int64) :=
  g_X11_digest_6 v_M_size v_M_sign v_M_manyAbove v_M_manyBelow a_M_now a_M_below a_M_above zF (701 : Int64) 0
theorem hd_X11_digest : yX11_digest.cls = RX11 ∧ yX11_digest.cls ≠ "java/lang/invoke/MethodHandle" ∧ yX11_digest.cls ≠ "java/lang/invoke/VarHandle" ∧ (parseMethodDescriptor yX11_digest.desc).map (fun d => d.parameters.length) = some 0 := by decide +kernel
set_option maxHeartbeats 4000000 in
set_option maxRecDepth 100000 in
theorem c_X11_digest (l : Launch) (D : va_G) (cI cJ cZ cA : ClassId) (ga : Nat → Nat) (q_M q_M_now q_M_below q_M_above : Nat) (u_M_images : Value) (u_M_kept : Value) (u_M_text : Value) (u_M_refused : Value) (u_M_at : Value) (u_M_begin : Value) (u_M_kind : Value) (u_M_value : Value) (u_M_read : Value) (u_M_acts : Value) (u_M_act : Value) (u_M_waits : Value) (u_M_wait : Value) (u_M_held : Value) (u_M_place : Value) (u_M_heap : Value) (u_M_clocks : Value) (u_M_counts : Value) (u_M_talking : Value) (u_M_most : Value) (u_M_hasA : Value) (u_M_hasB : Value) (u_M_talks : Value) (u_M_big : Value) (v_M_size : Int32) (v_M_sign : Int32) (v_M_manyAbove : Int32) (v_M_manyBelow : Int32) (a_M_now : Nat → Int32) (a_M_below : Nat → Int32) (a_M_above : Nat → Int32) (o : Int64) (hg : g_X11_digest v_M_size v_M_sign v_M_manyAbove v_M_manyBelow a_M_now a_M_below a_M_above = some o) : zM l yX11_digest (Cond.code yX11_digest cX11_digest 4 (some .long) :: wsL_law) rm_X11_digest D (zTy cI cJ cZ cA) ga [.ref q_M] (ws_X11_digest cI cJ cZ cA q_M q_M_now q_M_below q_M_above u_M_images u_M_kept u_M_text u_M_refused u_M_at u_M_begin u_M_kind u_M_value u_M_read u_M_acts u_M_act u_M_waits u_M_wait u_M_held u_M_place u_M_heap u_M_clocks u_M_counts u_M_talking u_M_most u_M_hasA u_M_hasB u_M_talks u_M_big v_M_size v_M_sign v_M_manyAbove v_M_manyBelow a_M_now a_M_below a_M_above) (ws_X11_digest cI cJ cZ cA q_M q_M_now q_M_below q_M_above u_M_images u_M_kept u_M_text u_M_refused u_M_at u_M_begin u_M_kind u_M_value u_M_read u_M_acts u_M_act u_M_waits u_M_wait u_M_held u_M_place u_M_heap u_M_clocks u_M_counts u_M_talking u_M_most u_M_hasA u_M_hasB u_M_talks u_M_big v_M_size v_M_sign v_M_manyAbove v_M_manyBelow a_M_now a_M_below a_M_above) (some (.long o)) := by
  refine zenterL (own := RX11) (by decide) rfl rfl (Nat.le_of_ble_eq_true rfl) ?_
  intro p e s m args below meth c A ls Q S hA hK hG hl hP hD hS hret0
  have hx := S.1
  have hb := S.2.1
  have ht : ∀ w, w ∈ wsL_law → w.before args s = true := fun w h => S.2.2.2.2 w (List.mem_cons_of_mem _ h)
  have hret : ∀ (r9 : Int64), (some (r9) : Option (Int64)) = some o → ∀ (H : Heap) (locs : List Loc) (pc : Nat) (ls : Array Slot), va_P D vwCl (ws_X11_digest cI cJ cZ cA q_M q_M_now q_M_below q_M_above u_M_images u_M_kept u_M_text u_M_refused u_M_at u_M_begin u_M_kind u_M_value u_M_read u_M_acts u_M_act u_M_waits u_M_wait u_M_held u_M_place u_M_heap u_M_clocks u_M_counts u_M_talking u_M_most u_M_hasA u_M_hasB u_M_talks u_M_big v_M_size v_M_sign v_M_manyAbove v_M_manyBelow a_M_now a_M_below a_M_above) H → va_S A s.heap H locs → decode cX11_digest pc = .ok (.lreturn, 1) → W p l e rm_X11_digest s m args below meth c H locs 0 0 Q (F0 m pc ls [.long r9]) := by
    intro r9 he; cases he; exact hret0
  have hl : lv_has ls 4 [(0, .ref q_M)] := hl
  have B384 : ∀  (n : Nat) (x1 : Int64) (x3 : Int32) (H : Heap) (locs : List Loc) (ls : Array Slot) (hl : lv_has ls 4 [(0, .ref q_M), (1, .long x1), (3, .int x3)]) (hP : va_P D vwCl (ws_X11_digest cI cJ cZ cA q_M q_M_now q_M_below q_M_above u_M_images u_M_kept u_M_text u_M_refused u_M_at u_M_begin u_M_kind u_M_value u_M_read u_M_acts u_M_act u_M_waits u_M_wait u_M_held u_M_place u_M_heap u_M_clocks u_M_counts u_M_talking u_M_most u_M_hasA u_M_hasB u_M_talks u_M_big v_M_size v_M_sign v_M_manyAbove v_M_manyBelow a_M_now a_M_below a_M_above) H) (hD : va_D A (ws_X11_digest cI cJ cZ cA q_M q_M_now q_M_below q_M_above u_M_images u_M_kept u_M_text u_M_refused u_M_at u_M_begin u_M_kind u_M_value u_M_read u_M_acts u_M_act u_M_waits u_M_wait u_M_held u_M_place u_M_heap u_M_clocks u_M_counts u_M_talking u_M_most u_M_hasA u_M_hasB u_M_talks u_M_big v_M_size v_M_sign v_M_manyAbove v_M_manyBelow a_M_now a_M_below a_M_above)) (hS : va_S A s.heap H locs), g_X11_digest_384 v_M_size v_M_sign v_M_manyAbove v_M_manyBelow a_M_now a_M_below a_M_above n x1 x3 = some o → W p l e rm_X11_digest s m args below meth c H locs 0 0 Q (F0 m 384 ls []) := by
    intro  n
    induction n with
    | zero => intro x1 x3 H locs ls hl hP hD hS hg; exact nomatch (show (none : Option (Int64)) = some o from hg)
    | succ n ih =>
      intro x1 x3 H locs ls hl hP hD hS hg
      have hg : g_X11_digest_384b v_M_size v_M_sign v_M_manyAbove v_M_manyBelow a_M_now a_M_below a_M_above (g_X11_digest_384 v_M_size v_M_sign v_M_manyAbove v_M_manyBelow a_M_now a_M_below a_M_above n) x1 x3 = some o := hg
      refine lv_iload_n hx hb dX11_digest_384 rfl (lv_at hl 2 rfl) ?_
      refine lv_aload_n hx hb dX11_digest_385 rfl (lv_at hl 0 rfl) ?_
      refine zget (C := RX11) (T := TX11) (N := 31) S hK hP 0 rfl rfl 7 (Nat.le_of_ble_eq_true rfl) zf_11 zw_153 rfl dX11_digest_386 ?_
      refine lv_icmp_ge (tgt := 410) hx hb dX11_digest_389 (by decide) (fun h389 => ?_) (fun h389 => ?_)
      · have hg := zp hg h389
        refine lv_lload_n hx hb dX11_digest_410 rfl (lv_at hl 1 rfl) ?_
        exact hret x1 hg _ _ _ _ hP hS dX11_digest_411
      · have hg := zn hg h389
        refine lv_lload_n hx hb dX11_digest_392 rfl (lv_at hl 1 rfl) ?_
        refine lv_aload_n hx hb dX11_digest_393 rfl (lv_at hl 0 rfl) ?_
        refine zget (C := RX11) (T := TX11) (N := 31) S hK hP 0 rfl rfl 9 (Nat.le_of_ble_eq_true rfl) zf_11 zw_155 rfl dX11_digest_394 ?_
        refine lv_iload_n hx hb dX11_digest_397 rfl (lv_at hl 2 rfl) ?_
        obtain ⟨h7, hg⟩ := zck hg
        refine ziald hx hb hK hP 2 0 rfl rfl (j := (x3.toNatClampNeg)) h7 rfl dX11_digest_398 ?_
        refine lv_i2l hx hb dX11_digest_399 rfl ?_
        obtain ⟨v8, hc9, hg⟩ := zbd hg
        refine zcallS (rest := []) S (c_X11_mixed l D cI cJ cZ cA ga x1 ((a_M_below (x3.toNatClampNeg)).toInt64) v8 hc9) (zgS zw_1093 zw_1094 zw_5 zw_1095) rfl hd_X11_mixed ⟨rfl, rfl⟩ ⟨Nat.le_of_ble_eq_true rfl, Nat.le_of_ble_eq_true rfl⟩ rfl hl.1 rfl (Nat.le_of_ble_eq_true rfl) dX11_digest_400 hP hD hS hA hK hG (isC := []) rfl (by decide +kernel) rfl ⟨Nat.zero_le _, Nat.zero_le _⟩ (pl := [none, none, none, none]) (nw := 4) rfl (by decide +kernel) (w2 := (ws_X11_digest cI cJ cZ cA q_M q_M_now q_M_below q_M_above u_M_images u_M_kept u_M_text u_M_refused u_M_at u_M_begin u_M_kind u_M_value u_M_read u_M_acts u_M_act u_M_waits u_M_wait u_M_held u_M_place u_M_heap u_M_clocks u_M_counts u_M_talking u_M_most u_M_hasA u_M_hasB u_M_talks u_M_big v_M_size v_M_sign v_M_manyAbove v_M_manyBelow a_M_now a_M_below a_M_above)) rfl (st1 := [.long v8]) rfl (fun H locs hP hD hS => ?_)
        refine lv_lstore_n (lv' := [(1, .long v8), (0, .ref q_M), (3, .int x3)]) hx hb dX11_digest_403 rfl hl (by decide) rfl (fun ls hl => ?_)
        refine lv_iinc (k := 2) (v := x3 + 1) (lv' := [(3, .int (x3 + 1)), (1, .long v8), (0, .ref q_M)]) hx hb dX11_digest_404 hl rfl (zinc (by decide)) (by decide) rfl (fun ls hl => ?_)
        refine lv_goto (tgt := 384) hx hb dX11_digest_407 (by decide) ?_
        exact ih v8 (x3 + 1) _ _ _ (lv_sub hl [2, 1, 0] rfl) hP hD hS hg
  have B356 : ∀  (n : Nat) (x1 : Int64) (x3 : Int32) (H : Heap) (locs : List Loc) (ls : Array Slot) (hl : lv_has ls 4 [(0, .ref q_M), (1, .long x1), (3, .int x3)]) (hP : va_P D vwCl (ws_X11_digest cI cJ cZ cA q_M q_M_now q_M_below q_M_above u_M_images u_M_kept u_M_text u_M_refused u_M_at u_M_begin u_M_kind u_M_value u_M_read u_M_acts u_M_act u_M_waits u_M_wait u_M_held u_M_place u_M_heap u_M_clocks u_M_counts u_M_talking u_M_most u_M_hasA u_M_hasB u_M_talks u_M_big v_M_size v_M_sign v_M_manyAbove v_M_manyBelow a_M_now a_M_below a_M_above) H) (hD : va_D A (ws_X11_digest cI cJ cZ cA q_M q_M_now q_M_below q_M_above u_M_images u_M_kept u_M_text u_M_refused u_M_at u_M_begin u_M_kind u_M_value u_M_read u_M_acts u_M_act u_M_waits u_M_wait u_M_held u_M_place u_M_heap u_M_clocks u_M_counts u_M_talking u_M_most u_M_hasA u_M_hasB u_M_talks u_M_big v_M_size v_M_sign v_M_manyAbove v_M_manyBelow a_M_now a_M_below a_M_above)) (hS : va_S A s.heap H locs), g_X11_digest_356 v_M_size v_M_sign v_M_manyAbove v_M_manyBelow a_M_now a_M_below a_M_above n x1 x3 = some o → W p l e rm_X11_digest s m args below meth c H locs 0 0 Q (F0 m 356 ls []) := by
    intro  n
    induction n with
    | zero => intro x1 x3 H locs ls hl hP hD hS hg; exact nomatch (show (none : Option (Int64)) = some o from hg)
    | succ n ih =>
      intro x1 x3 H locs ls hl hP hD hS hg
      have hg : g_X11_digest_356b v_M_size v_M_sign v_M_manyAbove v_M_manyBelow a_M_now a_M_below a_M_above (g_X11_digest_356 v_M_size v_M_sign v_M_manyAbove v_M_manyBelow a_M_now a_M_below a_M_above n) x1 x3 = some o := hg
      refine lv_iload_n hx hb dX11_digest_356 rfl (lv_at hl 2 rfl) ?_
      refine lv_aload_n hx hb dX11_digest_357 rfl (lv_at hl 0 rfl) ?_
      refine zget (C := RX11) (T := TX11) (N := 31) S hK hP 0 rfl rfl 6 (Nat.le_of_ble_eq_true rfl) zf_11 zw_920 rfl dX11_digest_358 ?_
      refine lv_icmp_ge (tgt := 382) hx hb dX11_digest_361 (by decide) (fun h361 => ?_) (fun h361 => ?_)
      · have hg := zp hg h361
        refine lv_iconst (v := 0) hx hb dX11_digest_382 (by decide) ?_
        refine lv_istore_n (lv' := [(3, .int 0), (0, .ref q_M), (1, .long x1)]) hx hb dX11_digest_383 rfl hl (by decide) rfl (fun ls hl => ?_)
        exact B384 zF x1 0 _ _ _ (lv_sub hl [1, 2, 0] rfl) hP hD hS hg
      · have hg := zn hg h361
        refine lv_lload_n hx hb dX11_digest_364 rfl (lv_at hl 1 rfl) ?_
        refine lv_aload_n hx hb dX11_digest_365 rfl (lv_at hl 0 rfl) ?_
        refine zget (C := RX11) (T := TX11) (N := 31) S hK hP 0 rfl rfl 8 (Nat.le_of_ble_eq_true rfl) zf_11 zw_154 rfl dX11_digest_366 ?_
        refine lv_iload_n hx hb dX11_digest_369 rfl (lv_at hl 2 rfl) ?_
        obtain ⟨h10, hg⟩ := zck hg
        refine ziald hx hb hK hP 3 0 rfl rfl (j := (x3.toNatClampNeg)) h10 rfl dX11_digest_370 ?_
        refine lv_i2l hx hb dX11_digest_371 rfl ?_
        obtain ⟨v11, hc12, hg⟩ := zbd hg
        refine zcallS (rest := []) S (c_X11_mixed l D cI cJ cZ cA ga x1 ((a_M_above (x3.toNatClampNeg)).toInt64) v11 hc12) (zgS zw_1093 zw_1094 zw_5 zw_1095) rfl hd_X11_mixed ⟨rfl, rfl⟩ ⟨Nat.le_of_ble_eq_true rfl, Nat.le_of_ble_eq_true rfl⟩ rfl hl.1 rfl (Nat.le_of_ble_eq_true rfl) dX11_digest_372 hP hD hS hA hK hG (isC := []) rfl (by decide +kernel) rfl ⟨Nat.zero_le _, Nat.zero_le _⟩ (pl := [none, none, none, none]) (nw := 4) rfl (by decide +kernel) (w2 := (ws_X11_digest cI cJ cZ cA q_M q_M_now q_M_below q_M_above u_M_images u_M_kept u_M_text u_M_refused u_M_at u_M_begin u_M_kind u_M_value u_M_read u_M_acts u_M_act u_M_waits u_M_wait u_M_held u_M_place u_M_heap u_M_clocks u_M_counts u_M_talking u_M_most u_M_hasA u_M_hasB u_M_talks u_M_big v_M_size v_M_sign v_M_manyAbove v_M_manyBelow a_M_now a_M_below a_M_above)) rfl (st1 := [.long v11]) rfl (fun H locs hP hD hS => ?_)
        refine lv_lstore_n (lv' := [(1, .long v11), (0, .ref q_M), (3, .int x3)]) hx hb dX11_digest_375 rfl hl (by decide) rfl (fun ls hl => ?_)
        refine lv_iinc (k := 2) (v := x3 + 1) (lv' := [(3, .int (x3 + 1)), (1, .long v11), (0, .ref q_M)]) hx hb dX11_digest_376 hl rfl (zinc (by decide)) (by decide) rfl (fun ls hl => ?_)
        refine lv_goto (tgt := 356) hx hb dX11_digest_379 (by decide) ?_
        exact ih v11 (x3 + 1) _ _ _ (lv_sub hl [2, 1, 0] rfl) hP hD hS hg
  have B296 : ∀  (n : Nat) (x1 : Int64) (x3 : Int32) (H : Heap) (locs : List Loc) (ls : Array Slot) (hl : lv_has ls 4 [(0, .ref q_M), (1, .long x1), (3, .int x3)]) (hP : va_P D vwCl (ws_X11_digest cI cJ cZ cA q_M q_M_now q_M_below q_M_above u_M_images u_M_kept u_M_text u_M_refused u_M_at u_M_begin u_M_kind u_M_value u_M_read u_M_acts u_M_act u_M_waits u_M_wait u_M_held u_M_place u_M_heap u_M_clocks u_M_counts u_M_talking u_M_most u_M_hasA u_M_hasB u_M_talks u_M_big v_M_size v_M_sign v_M_manyAbove v_M_manyBelow a_M_now a_M_below a_M_above) H) (hD : va_D A (ws_X11_digest cI cJ cZ cA q_M q_M_now q_M_below q_M_above u_M_images u_M_kept u_M_text u_M_refused u_M_at u_M_begin u_M_kind u_M_value u_M_read u_M_acts u_M_act u_M_waits u_M_wait u_M_held u_M_place u_M_heap u_M_clocks u_M_counts u_M_talking u_M_most u_M_hasA u_M_hasB u_M_talks u_M_big v_M_size v_M_sign v_M_manyAbove v_M_manyBelow a_M_now a_M_below a_M_above)) (hS : va_S A s.heap H locs), g_X11_digest_296 v_M_size v_M_sign v_M_manyAbove v_M_manyBelow a_M_now a_M_below a_M_above n x1 x3 = some o → W p l e rm_X11_digest s m args below meth c H locs 0 0 Q (F0 m 296 ls []) := by
    intro  n
    induction n with
    | zero => intro x1 x3 H locs ls hl hP hD hS hg; exact nomatch (show (none : Option (Int64)) = some o from hg)
    | succ n ih =>
      intro x1 x3 H locs ls hl hP hD hS hg
      have hg : g_X11_digest_296b v_M_size v_M_sign v_M_manyAbove v_M_manyBelow a_M_now a_M_below a_M_above (g_X11_digest_296 v_M_size v_M_sign v_M_manyAbove v_M_manyBelow a_M_now a_M_below a_M_above n) x1 x3 = some o := hg
      refine lv_iload_n hx hb dX11_digest_296 rfl (lv_at hl 2 rfl) ?_
      refine lv_aload_n hx hb dX11_digest_297 rfl (lv_at hl 0 rfl) ?_
      refine zget (C := RX11) (T := TX11) (N := 31) S hK hP 0 rfl rfl 0 (Nat.le_of_ble_eq_true rfl) zf_11 zw_149 rfl dX11_digest_298 ?_
      refine lv_bipush (v := 7) hx hb dX11_digest_301 (by decide) ?_
      refine ziald hx hb hK hP 1 0 rfl rfl (j := 7) (zin (by decide)) (by decide) dX11_digest_303 ?_
      refine lv_icmp_ge (tgt := 328) hx hb dX11_digest_304 (by decide) (fun h304 => ?_) (fun h304 => ?_)
      · have hg := zp hg h304
        refine lv_lload_n hx hb dX11_digest_328 rfl (lv_at hl 1 rfl) ?_
        refine lv_aload_n hx hb dX11_digest_329 rfl (lv_at hl 0 rfl) ?_
        refine zget (C := RX11) (T := TX11) (N := 31) S hK hP 0 rfl rfl 5 (Nat.le_of_ble_eq_true rfl) zf_11 zw_921 rfl dX11_digest_330 ?_
        refine lv_i2l hx hb dX11_digest_333 rfl ?_
        obtain ⟨v1, hc2, hg⟩ := zbd hg
        refine zcallS (rest := []) S (c_X11_mixed l D cI cJ cZ cA ga x1 v_M_sign.toInt64 v1 hc2) (zgS zw_1093 zw_1094 zw_5 zw_1095) rfl hd_X11_mixed ⟨rfl, rfl⟩ ⟨Nat.le_of_ble_eq_true rfl, Nat.le_of_ble_eq_true rfl⟩ rfl hl.1 rfl (Nat.le_of_ble_eq_true rfl) dX11_digest_334 hP hD hS hA hK hG (isC := []) rfl (by decide +kernel) rfl ⟨Nat.zero_le _, Nat.zero_le _⟩ (pl := [none, none, none, none]) (nw := 4) rfl (by decide +kernel) (w2 := (ws_X11_digest cI cJ cZ cA q_M q_M_now q_M_below q_M_above u_M_images u_M_kept u_M_text u_M_refused u_M_at u_M_begin u_M_kind u_M_value u_M_read u_M_acts u_M_act u_M_waits u_M_wait u_M_held u_M_place u_M_heap u_M_clocks u_M_counts u_M_talking u_M_most u_M_hasA u_M_hasB u_M_talks u_M_big v_M_size v_M_sign v_M_manyAbove v_M_manyBelow a_M_now a_M_below a_M_above)) rfl (st1 := [.long v1]) rfl (fun H locs hP hD hS => ?_)
        refine lv_aload_n hx hb dX11_digest_337 rfl (lv_at hl 0 rfl) ?_
        refine zget (C := RX11) (T := TX11) (N := 31) S hK hP 0 rfl rfl 6 (Nat.le_of_ble_eq_true rfl) zf_11 zw_920 rfl dX11_digest_338 ?_
        refine lv_i2l hx hb dX11_digest_341 rfl ?_
        obtain ⟨v3, hc4, hg⟩ := zbd hg
        refine zcallS (rest := []) S (c_X11_mixed l D cI cJ cZ cA ga v1 v_M_manyAbove.toInt64 v3 hc4) (zgS zw_1093 zw_1094 zw_5 zw_1095) rfl hd_X11_mixed ⟨rfl, rfl⟩ ⟨Nat.le_of_ble_eq_true rfl, Nat.le_of_ble_eq_true rfl⟩ rfl hl.1 rfl (Nat.le_of_ble_eq_true rfl) dX11_digest_342 hP hD hS hA hK hG (isC := []) rfl (by decide +kernel) rfl ⟨Nat.zero_le _, Nat.zero_le _⟩ (pl := [none, none, none, none]) (nw := 4) rfl (by decide +kernel) (w2 := (ws_X11_digest cI cJ cZ cA q_M q_M_now q_M_below q_M_above u_M_images u_M_kept u_M_text u_M_refused u_M_at u_M_begin u_M_kind u_M_value u_M_read u_M_acts u_M_act u_M_waits u_M_wait u_M_held u_M_place u_M_heap u_M_clocks u_M_counts u_M_talking u_M_most u_M_hasA u_M_hasB u_M_talks u_M_big v_M_size v_M_sign v_M_manyAbove v_M_manyBelow a_M_now a_M_below a_M_above)) rfl (st1 := [.long v3]) rfl (fun H locs hP hD hS => ?_)
        refine lv_aload_n hx hb dX11_digest_345 rfl (lv_at hl 0 rfl) ?_
        refine zget (C := RX11) (T := TX11) (N := 31) S hK hP 0 rfl rfl 7 (Nat.le_of_ble_eq_true rfl) zf_11 zw_153 rfl dX11_digest_346 ?_
        refine lv_i2l hx hb dX11_digest_349 rfl ?_
        obtain ⟨v5, hc6, hg⟩ := zbd hg
        refine zcallS (rest := []) S (c_X11_mixed l D cI cJ cZ cA ga v3 v_M_manyBelow.toInt64 v5 hc6) (zgS zw_1093 zw_1094 zw_5 zw_1095) rfl hd_X11_mixed ⟨rfl, rfl⟩ ⟨Nat.le_of_ble_eq_true rfl, Nat.le_of_ble_eq_true rfl⟩ rfl hl.1 rfl (Nat.le_of_ble_eq_true rfl) dX11_digest_350 hP hD hS hA hK hG (isC := []) rfl (by decide +kernel) rfl ⟨Nat.zero_le _, Nat.zero_le _⟩ (pl := [none, none, none, none]) (nw := 4) rfl (by decide +kernel) (w2 := (ws_X11_digest cI cJ cZ cA q_M q_M_now q_M_below q_M_above u_M_images u_M_kept u_M_text u_M_refused u_M_at u_M_begin u_M_kind u_M_value u_M_read u_M_acts u_M_act u_M_waits u_M_wait u_M_held u_M_place u_M_heap u_M_clocks u_M_counts u_M_talking u_M_most u_M_hasA u_M_hasB u_M_talks u_M_big v_M_size v_M_sign v_M_manyAbove v_M_manyBelow a_M_now a_M_below a_M_above)) rfl (st1 := [.long v5]) rfl (fun H locs hP hD hS => ?_)
        refine lv_lstore_n (lv' := [(1, .long v5), (0, .ref q_M), (3, .int x3)]) hx hb dX11_digest_353 rfl hl (by decide) rfl (fun ls hl => ?_)
        refine lv_iconst (v := 0) hx hb dX11_digest_354 (by decide) ?_
        refine lv_istore_n (lv' := [(3, .int 0), (1, .long v5), (0, .ref q_M)]) hx hb dX11_digest_355 rfl hl (by decide) rfl (fun ls hl => ?_)
        exact B356 zF v5 0 _ _ _ (lv_sub hl [2, 1, 0] rfl) hP hD hS hg
      · have hg := zn hg h304
        refine lv_lload_n hx hb dX11_digest_307 rfl (lv_at hl 1 rfl) ?_
        refine lv_aload_n hx hb dX11_digest_308 rfl (lv_at hl 0 rfl) ?_
        refine zget (C := RX11) (T := TX11) (N := 31) S hK hP 0 rfl rfl 0 (Nat.le_of_ble_eq_true rfl) zf_11 zw_149 rfl dX11_digest_309 ?_
        refine lv_bipush (v := 115) hx hb dX11_digest_312 (by decide) ?_
        refine lv_iload_n hx hb dX11_digest_314 rfl (lv_at hl 2 rfl) ?_
        refine lv_iadd hx hb dX11_digest_315 ?_
        obtain ⟨h13, hg⟩ := zck hg
        refine ziald hx hb hK hP 1 0 rfl rfl (j := ((115 + x3).toNatClampNeg)) h13 rfl dX11_digest_316 ?_
        refine lv_i2l hx hb dX11_digest_317 rfl ?_
        obtain ⟨v14, hc15, hg⟩ := zbd hg
        refine zcallS (rest := []) S (c_X11_mixed l D cI cJ cZ cA ga x1 ((a_M_now ((115 + x3).toNatClampNeg)).toInt64) v14 hc15) (zgS zw_1093 zw_1094 zw_5 zw_1095) rfl hd_X11_mixed ⟨rfl, rfl⟩ ⟨Nat.le_of_ble_eq_true rfl, Nat.le_of_ble_eq_true rfl⟩ rfl hl.1 rfl (Nat.le_of_ble_eq_true rfl) dX11_digest_318 hP hD hS hA hK hG (isC := []) rfl (by decide +kernel) rfl ⟨Nat.zero_le _, Nat.zero_le _⟩ (pl := [none, none, none, none]) (nw := 4) rfl (by decide +kernel) (w2 := (ws_X11_digest cI cJ cZ cA q_M q_M_now q_M_below q_M_above u_M_images u_M_kept u_M_text u_M_refused u_M_at u_M_begin u_M_kind u_M_value u_M_read u_M_acts u_M_act u_M_waits u_M_wait u_M_held u_M_place u_M_heap u_M_clocks u_M_counts u_M_talking u_M_most u_M_hasA u_M_hasB u_M_talks u_M_big v_M_size v_M_sign v_M_manyAbove v_M_manyBelow a_M_now a_M_below a_M_above)) rfl (st1 := [.long v14]) rfl (fun H locs hP hD hS => ?_)
        refine lv_lstore_n (lv' := [(1, .long v14), (0, .ref q_M), (3, .int x3)]) hx hb dX11_digest_321 rfl hl (by decide) rfl (fun ls hl => ?_)
        refine lv_iinc (k := 2) (v := x3 + 1) (lv' := [(3, .int (x3 + 1)), (1, .long v14), (0, .ref q_M)]) hx hb dX11_digest_322 hl rfl (zinc (by decide)) (by decide) rfl (fun ls hl => ?_)
        refine lv_goto (tgt := 296) hx hb dX11_digest_325 (by decide) ?_
        exact ih v14 (x3 + 1) _ _ _ (lv_sub hl [2, 1, 0] rfl) hP hD hS hg
  have B270 : ∀  (n : Nat) (x1 : Int64) (x3 : Int32) (H : Heap) (locs : List Loc) (ls : Array Slot) (hl : lv_has ls 4 [(0, .ref q_M), (1, .long x1), (3, .int x3)]) (hP : va_P D vwCl (ws_X11_digest cI cJ cZ cA q_M q_M_now q_M_below q_M_above u_M_images u_M_kept u_M_text u_M_refused u_M_at u_M_begin u_M_kind u_M_value u_M_read u_M_acts u_M_act u_M_waits u_M_wait u_M_held u_M_place u_M_heap u_M_clocks u_M_counts u_M_talking u_M_most u_M_hasA u_M_hasB u_M_talks u_M_big v_M_size v_M_sign v_M_manyAbove v_M_manyBelow a_M_now a_M_below a_M_above) H) (hD : va_D A (ws_X11_digest cI cJ cZ cA q_M q_M_now q_M_below q_M_above u_M_images u_M_kept u_M_text u_M_refused u_M_at u_M_begin u_M_kind u_M_value u_M_read u_M_acts u_M_act u_M_waits u_M_wait u_M_held u_M_place u_M_heap u_M_clocks u_M_counts u_M_talking u_M_most u_M_hasA u_M_hasB u_M_talks u_M_big v_M_size v_M_sign v_M_manyAbove v_M_manyBelow a_M_now a_M_below a_M_above)) (hS : va_S A s.heap H locs), g_X11_digest_270 v_M_size v_M_sign v_M_manyAbove v_M_manyBelow a_M_now a_M_below a_M_above n x1 x3 = some o → W p l e rm_X11_digest s m args below meth c H locs 0 0 Q (F0 m 270 ls []) := by
    intro  n
    induction n with
    | zero => intro x1 x3 H locs ls hl hP hD hS hg; exact nomatch (show (none : Option (Int64)) = some o from hg)
    | succ n ih =>
      intro x1 x3 H locs ls hl hP hD hS hg
      have hg : g_X11_digest_270b v_M_size v_M_sign v_M_manyAbove v_M_manyBelow a_M_now a_M_below a_M_above (g_X11_digest_270 v_M_size v_M_sign v_M_manyAbove v_M_manyBelow a_M_now a_M_below a_M_above n) x1 x3 = some o := hg
      refine lv_iload_n hx hb dX11_digest_270 rfl (lv_at hl 2 rfl) ?_
      refine lv_bipush (v := 12) hx hb dX11_digest_271 (by decide) ?_
      refine lv_icmp_gt (tgt := 294) hx hb dX11_digest_273 (by decide) (fun h273 => ?_) (fun h273 => ?_)
      · have hg := zp hg h273
        refine lv_iconst (v := 0) hx hb dX11_digest_294 (by decide) ?_
        refine lv_istore_n (lv' := [(3, .int 0), (0, .ref q_M), (1, .long x1)]) hx hb dX11_digest_295 rfl hl (by decide) rfl (fun ls hl => ?_)
        exact B296 zF x1 0 _ _ _ (lv_sub hl [1, 2, 0] rfl) hP hD hS hg
      · have hg := zn hg h273
        refine lv_lload_n hx hb dX11_digest_276 rfl (lv_at hl 1 rfl) ?_
        refine lv_aload_n hx hb dX11_digest_277 rfl (lv_at hl 0 rfl) ?_
        refine zget (C := RX11) (T := TX11) (N := 31) S hK hP 0 rfl rfl 0 (Nat.le_of_ble_eq_true rfl) zf_11 zw_149 rfl dX11_digest_278 ?_
        refine lv_iload_n hx hb dX11_digest_281 rfl (lv_at hl 2 rfl) ?_
        obtain ⟨h16, hg⟩ := zck hg
        refine ziald hx hb hK hP 1 0 rfl rfl (j := (x3.toNatClampNeg)) h16 rfl dX11_digest_282 ?_
        refine lv_i2l hx hb dX11_digest_283 rfl ?_
        obtain ⟨v17, hc18, hg⟩ := zbd hg
        refine zcallS (rest := []) S (c_X11_mixed l D cI cJ cZ cA ga x1 ((a_M_now (x3.toNatClampNeg)).toInt64) v17 hc18) (zgS zw_1093 zw_1094 zw_5 zw_1095) rfl hd_X11_mixed ⟨rfl, rfl⟩ ⟨Nat.le_of_ble_eq_true rfl, Nat.le_of_ble_eq_true rfl⟩ rfl hl.1 rfl (Nat.le_of_ble_eq_true rfl) dX11_digest_284 hP hD hS hA hK hG (isC := []) rfl (by decide +kernel) rfl ⟨Nat.zero_le _, Nat.zero_le _⟩ (pl := [none, none, none, none]) (nw := 4) rfl (by decide +kernel) (w2 := (ws_X11_digest cI cJ cZ cA q_M q_M_now q_M_below q_M_above u_M_images u_M_kept u_M_text u_M_refused u_M_at u_M_begin u_M_kind u_M_value u_M_read u_M_acts u_M_act u_M_waits u_M_wait u_M_held u_M_place u_M_heap u_M_clocks u_M_counts u_M_talking u_M_most u_M_hasA u_M_hasB u_M_talks u_M_big v_M_size v_M_sign v_M_manyAbove v_M_manyBelow a_M_now a_M_below a_M_above)) rfl (st1 := [.long v17]) rfl (fun H locs hP hD hS => ?_)
        refine lv_lstore_n (lv' := [(1, .long v17), (0, .ref q_M), (3, .int x3)]) hx hb dX11_digest_287 rfl hl (by decide) rfl (fun ls hl => ?_)
        refine lv_iinc (k := 2) (v := x3 + 1) (lv' := [(3, .int (x3 + 1)), (1, .long v17), (0, .ref q_M)]) hx hb dX11_digest_288 hl rfl (zinc (by decide)) (by decide) rfl (fun ls hl => ?_)
        refine lv_goto (tgt := 270) hx hb dX11_digest_291 (by decide) ?_
        exact ih v17 (x3 + 1) _ _ _ (lv_sub hl [2, 1, 0] rfl) hP hD hS hg
  have B222 : ∀  (n : Nat) (x1 : Int64) (x3 : Int32) (H : Heap) (locs : List Loc) (ls : Array Slot) (hl : lv_has ls 4 [(0, .ref q_M), (1, .long x1), (3, .int x3)]) (hP : va_P D vwCl (ws_X11_digest cI cJ cZ cA q_M q_M_now q_M_below q_M_above u_M_images u_M_kept u_M_text u_M_refused u_M_at u_M_begin u_M_kind u_M_value u_M_read u_M_acts u_M_act u_M_waits u_M_wait u_M_held u_M_place u_M_heap u_M_clocks u_M_counts u_M_talking u_M_most u_M_hasA u_M_hasB u_M_talks u_M_big v_M_size v_M_sign v_M_manyAbove v_M_manyBelow a_M_now a_M_below a_M_above) H) (hD : va_D A (ws_X11_digest cI cJ cZ cA q_M q_M_now q_M_below q_M_above u_M_images u_M_kept u_M_text u_M_refused u_M_at u_M_begin u_M_kind u_M_value u_M_read u_M_acts u_M_act u_M_waits u_M_wait u_M_held u_M_place u_M_heap u_M_clocks u_M_counts u_M_talking u_M_most u_M_hasA u_M_hasB u_M_talks u_M_big v_M_size v_M_sign v_M_manyAbove v_M_manyBelow a_M_now a_M_below a_M_above)) (hS : va_S A s.heap H locs), g_X11_digest_222 v_M_size v_M_sign v_M_manyAbove v_M_manyBelow a_M_now a_M_below a_M_above n x1 x3 = some o → W p l e rm_X11_digest s m args below meth c H locs 0 0 Q (F0 m 222 ls []) := by
    intro  n
    induction n with
    | zero => intro x1 x3 H locs ls hl hP hD hS hg; exact nomatch (show (none : Option (Int64)) = some o from hg)
    | succ n ih =>
      intro x1 x3 H locs ls hl hP hD hS hg
      have hg : g_X11_digest_222b v_M_size v_M_sign v_M_manyAbove v_M_manyBelow a_M_now a_M_below a_M_above (g_X11_digest_222 v_M_size v_M_sign v_M_manyAbove v_M_manyBelow a_M_now a_M_below a_M_above n) x1 x3 = some o := hg
      refine lv_iload_n hx hb dX11_digest_222 rfl (lv_at hl 2 rfl) ?_
      refine lv_aload_n hx hb dX11_digest_223 rfl (lv_at hl 0 rfl) ?_
      refine zget (C := RX11) (T := TX11) (N := 31) S hK hP 0 rfl rfl 0 (Nat.le_of_ble_eq_true rfl) zf_11 zw_149 rfl dX11_digest_224 ?_
      refine lv_bipush (v := 6) hx hb dX11_digest_227 (by decide) ?_
      refine ziald hx hb hK hP 1 0 rfl rfl (j := 6) (zin (by decide)) (by decide) dX11_digest_229 ?_
      refine lv_icmp_ge (tgt := 267) hx hb dX11_digest_230 (by decide) (fun h230 => ?_) (fun h230 => ?_)
      · have hg := zp hg h230
        refine lv_bipush (v := 8) hx hb dX11_digest_267 (by decide) ?_
        refine lv_istore_n (lv' := [(3, .int 8), (0, .ref q_M), (1, .long x1)]) hx hb dX11_digest_269 rfl hl (by decide) rfl (fun ls hl => ?_)
        exact B270 zF x1 8 _ _ _ (lv_sub hl [1, 2, 0] rfl) hP hD hS hg
      · have hg := zn hg h230
        refine lv_lload_n hx hb dX11_digest_233 rfl (lv_at hl 1 rfl) ?_
        refine lv_aload_n hx hb dX11_digest_234 rfl (lv_at hl 0 rfl) ?_
        refine zget (C := RX11) (T := TX11) (N := 31) S hK hP 0 rfl rfl 0 (Nat.le_of_ble_eq_true rfl) zf_11 zw_149 rfl dX11_digest_235 ?_
        refine lv_bipush (v := 95) hx hb dX11_digest_238 (by decide) ?_
        refine lv_iload_n hx hb dX11_digest_240 rfl (lv_at hl 2 rfl) ?_
        refine lv_iadd hx hb dX11_digest_241 ?_
        obtain ⟨h19, hg⟩ := zck hg
        refine ziald hx hb hK hP 1 0 rfl rfl (j := ((95 + x3).toNatClampNeg)) h19 rfl dX11_digest_242 ?_
        refine lv_i2l hx hb dX11_digest_243 rfl ?_
        obtain ⟨v20, hc21, hg⟩ := zbd hg
        refine zcallS (rest := []) S (c_X11_mixed l D cI cJ cZ cA ga x1 ((a_M_now ((95 + x3).toNatClampNeg)).toInt64) v20 hc21) (zgS zw_1093 zw_1094 zw_5 zw_1095) rfl hd_X11_mixed ⟨rfl, rfl⟩ ⟨Nat.le_of_ble_eq_true rfl, Nat.le_of_ble_eq_true rfl⟩ rfl hl.1 rfl (Nat.le_of_ble_eq_true rfl) dX11_digest_244 hP hD hS hA hK hG (isC := []) rfl (by decide +kernel) rfl ⟨Nat.zero_le _, Nat.zero_le _⟩ (pl := [none, none, none, none]) (nw := 4) rfl (by decide +kernel) (w2 := (ws_X11_digest cI cJ cZ cA q_M q_M_now q_M_below q_M_above u_M_images u_M_kept u_M_text u_M_refused u_M_at u_M_begin u_M_kind u_M_value u_M_read u_M_acts u_M_act u_M_waits u_M_wait u_M_held u_M_place u_M_heap u_M_clocks u_M_counts u_M_talking u_M_most u_M_hasA u_M_hasB u_M_talks u_M_big v_M_size v_M_sign v_M_manyAbove v_M_manyBelow a_M_now a_M_below a_M_above)) rfl (st1 := [.long v20]) rfl (fun H locs hP hD hS => ?_)
        refine lv_aload_n hx hb dX11_digest_247 rfl (lv_at hl 0 rfl) ?_
        refine zget (C := RX11) (T := TX11) (N := 31) S hK hP 0 rfl rfl 0 (Nat.le_of_ble_eq_true rfl) zf_11 zw_149 rfl dX11_digest_248 ?_
        refine lv_bipush (v := 105) hx hb dX11_digest_251 (by decide) ?_
        refine lv_iload_n hx hb dX11_digest_253 rfl (lv_at hl 2 rfl) ?_
        refine lv_iadd hx hb dX11_digest_254 ?_
        obtain ⟨h22, hg⟩ := zck hg
        refine ziald hx hb hK hP 1 0 rfl rfl (j := ((105 + x3).toNatClampNeg)) h22 rfl dX11_digest_255 ?_
        refine lv_i2l hx hb dX11_digest_256 rfl ?_
        obtain ⟨v23, hc24, hg⟩ := zbd hg
        refine zcallS (rest := []) S (c_X11_mixed l D cI cJ cZ cA ga v20 ((a_M_now ((105 + x3).toNatClampNeg)).toInt64) v23 hc24) (zgS zw_1093 zw_1094 zw_5 zw_1095) rfl hd_X11_mixed ⟨rfl, rfl⟩ ⟨Nat.le_of_ble_eq_true rfl, Nat.le_of_ble_eq_true rfl⟩ rfl hl.1 rfl (Nat.le_of_ble_eq_true rfl) dX11_digest_257 hP hD hS hA hK hG (isC := []) rfl (by decide +kernel) rfl ⟨Nat.zero_le _, Nat.zero_le _⟩ (pl := [none, none, none, none]) (nw := 4) rfl (by decide +kernel) (w2 := (ws_X11_digest cI cJ cZ cA q_M q_M_now q_M_below q_M_above u_M_images u_M_kept u_M_text u_M_refused u_M_at u_M_begin u_M_kind u_M_value u_M_read u_M_acts u_M_act u_M_waits u_M_wait u_M_held u_M_place u_M_heap u_M_clocks u_M_counts u_M_talking u_M_most u_M_hasA u_M_hasB u_M_talks u_M_big v_M_size v_M_sign v_M_manyAbove v_M_manyBelow a_M_now a_M_below a_M_above)) rfl (st1 := [.long v23]) rfl (fun H locs hP hD hS => ?_)
        refine lv_lstore_n (lv' := [(1, .long v23), (0, .ref q_M), (3, .int x3)]) hx hb dX11_digest_260 rfl hl (by decide) rfl (fun ls hl => ?_)
        refine lv_iinc (k := 2) (v := x3 + 1) (lv' := [(3, .int (x3 + 1)), (1, .long v23), (0, .ref q_M)]) hx hb dX11_digest_261 hl rfl (zinc (by decide)) (by decide) rfl (fun ls hl => ?_)
        refine lv_goto (tgt := 222) hx hb dX11_digest_264 (by decide) ?_
        exact ih v23 (x3 + 1) _ _ _ (lv_sub hl [2, 1, 0] rfl) hP hD hS hg
  have B163 : ∀  (n : Nat) (x1 : Int64) (x3 : Int32) (H : Heap) (locs : List Loc) (ls : Array Slot) (hl : lv_has ls 4 [(0, .ref q_M), (1, .long x1), (3, .int x3)]) (hP : va_P D vwCl (ws_X11_digest cI cJ cZ cA q_M q_M_now q_M_below q_M_above u_M_images u_M_kept u_M_text u_M_refused u_M_at u_M_begin u_M_kind u_M_value u_M_read u_M_acts u_M_act u_M_waits u_M_wait u_M_held u_M_place u_M_heap u_M_clocks u_M_counts u_M_talking u_M_most u_M_hasA u_M_hasB u_M_talks u_M_big v_M_size v_M_sign v_M_manyAbove v_M_manyBelow a_M_now a_M_below a_M_above) H) (hD : va_D A (ws_X11_digest cI cJ cZ cA q_M q_M_now q_M_below q_M_above u_M_images u_M_kept u_M_text u_M_refused u_M_at u_M_begin u_M_kind u_M_value u_M_read u_M_acts u_M_act u_M_waits u_M_wait u_M_held u_M_place u_M_heap u_M_clocks u_M_counts u_M_talking u_M_most u_M_hasA u_M_hasB u_M_talks u_M_big v_M_size v_M_sign v_M_manyAbove v_M_manyBelow a_M_now a_M_below a_M_above)) (hS : va_S A s.heap H locs), g_X11_digest_163 v_M_size v_M_sign v_M_manyAbove v_M_manyBelow a_M_now a_M_below a_M_above n x1 x3 = some o → W p l e rm_X11_digest s m args below meth c H locs 0 0 Q (F0 m 163 ls []) := by
    intro  n
    induction n with
    | zero => intro x1 x3 H locs ls hl hP hD hS hg; exact nomatch (show (none : Option (Int64)) = some o from hg)
    | succ n ih =>
      intro x1 x3 H locs ls hl hP hD hS hg
      have hg : g_X11_digest_163b v_M_size v_M_sign v_M_manyAbove v_M_manyBelow a_M_now a_M_below a_M_above (g_X11_digest_163 v_M_size v_M_sign v_M_manyAbove v_M_manyBelow a_M_now a_M_below a_M_above n) x1 x3 = some o := hg
      refine lv_iload_n hx hb dX11_digest_163 rfl (lv_at hl 2 rfl) ?_
      refine lv_aload_n hx hb dX11_digest_164 rfl (lv_at hl 0 rfl) ?_
      refine zget (C := RX11) (T := TX11) (N := 31) S hK hP 0 rfl rfl 0 (Nat.le_of_ble_eq_true rfl) zf_11 zw_149 rfl dX11_digest_165 ?_
      refine lv_iconst (v := 5) hx hb dX11_digest_168 (by decide) ?_
      refine ziald hx hb hK hP 1 0 rfl rfl (j := 5) (zin (by decide)) (by decide) dX11_digest_169 ?_
      refine lv_icmp_ge (tgt := 220) hx hb dX11_digest_170 (by decide) (fun h170 => ?_) (fun h170 => ?_)
      · have hg := zp hg h170
        refine lv_iconst (v := 0) hx hb dX11_digest_220 (by decide) ?_
        refine lv_istore_n (lv' := [(3, .int 0), (0, .ref q_M), (1, .long x1)]) hx hb dX11_digest_221 rfl hl (by decide) rfl (fun ls hl => ?_)
        exact B222 zF x1 0 _ _ _ (lv_sub hl [1, 2, 0] rfl) hP hD hS hg
      · have hg := zn hg h170
        refine lv_lload_n hx hb dX11_digest_173 rfl (lv_at hl 1 rfl) ?_
        refine lv_aload_n hx hb dX11_digest_174 rfl (lv_at hl 0 rfl) ?_
        refine zget (C := RX11) (T := TX11) (N := 31) S hK hP 0 rfl rfl 0 (Nat.le_of_ble_eq_true rfl) zf_11 zw_149 rfl dX11_digest_175 ?_
        refine lv_bipush (v := 71) hx hb dX11_digest_178 (by decide) ?_
        refine lv_iload_n hx hb dX11_digest_180 rfl (lv_at hl 2 rfl) ?_
        refine lv_iadd hx hb dX11_digest_181 ?_
        obtain ⟨h25, hg⟩ := zck hg
        refine ziald hx hb hK hP 1 0 rfl rfl (j := ((71 + x3).toNatClampNeg)) h25 rfl dX11_digest_182 ?_
        refine lv_i2l hx hb dX11_digest_183 rfl ?_
        obtain ⟨v26, hc27, hg⟩ := zbd hg
        refine zcallS (rest := []) S (c_X11_mixed l D cI cJ cZ cA ga x1 ((a_M_now ((71 + x3).toNatClampNeg)).toInt64) v26 hc27) (zgS zw_1093 zw_1094 zw_5 zw_1095) rfl hd_X11_mixed ⟨rfl, rfl⟩ ⟨Nat.le_of_ble_eq_true rfl, Nat.le_of_ble_eq_true rfl⟩ rfl hl.1 rfl (Nat.le_of_ble_eq_true rfl) dX11_digest_184 hP hD hS hA hK hG (isC := []) rfl (by decide +kernel) rfl ⟨Nat.zero_le _, Nat.zero_le _⟩ (pl := [none, none, none, none]) (nw := 4) rfl (by decide +kernel) (w2 := (ws_X11_digest cI cJ cZ cA q_M q_M_now q_M_below q_M_above u_M_images u_M_kept u_M_text u_M_refused u_M_at u_M_begin u_M_kind u_M_value u_M_read u_M_acts u_M_act u_M_waits u_M_wait u_M_held u_M_place u_M_heap u_M_clocks u_M_counts u_M_talking u_M_most u_M_hasA u_M_hasB u_M_talks u_M_big v_M_size v_M_sign v_M_manyAbove v_M_manyBelow a_M_now a_M_below a_M_above)) rfl (st1 := [.long v26]) rfl (fun H locs hP hD hS => ?_)
        refine lv_aload_n hx hb dX11_digest_187 rfl (lv_at hl 0 rfl) ?_
        refine zget (C := RX11) (T := TX11) (N := 31) S hK hP 0 rfl rfl 0 (Nat.le_of_ble_eq_true rfl) zf_11 zw_149 rfl dX11_digest_188 ?_
        refine lv_bipush (v := 79) hx hb dX11_digest_191 (by decide) ?_
        refine lv_iload_n hx hb dX11_digest_193 rfl (lv_at hl 2 rfl) ?_
        refine lv_iadd hx hb dX11_digest_194 ?_
        obtain ⟨h28, hg⟩ := zck hg
        refine ziald hx hb hK hP 1 0 rfl rfl (j := ((79 + x3).toNatClampNeg)) h28 rfl dX11_digest_195 ?_
        refine lv_i2l hx hb dX11_digest_196 rfl ?_
        obtain ⟨v29, hc30, hg⟩ := zbd hg
        refine zcallS (rest := []) S (c_X11_mixed l D cI cJ cZ cA ga v26 ((a_M_now ((79 + x3).toNatClampNeg)).toInt64) v29 hc30) (zgS zw_1093 zw_1094 zw_5 zw_1095) rfl hd_X11_mixed ⟨rfl, rfl⟩ ⟨Nat.le_of_ble_eq_true rfl, Nat.le_of_ble_eq_true rfl⟩ rfl hl.1 rfl (Nat.le_of_ble_eq_true rfl) dX11_digest_197 hP hD hS hA hK hG (isC := []) rfl (by decide +kernel) rfl ⟨Nat.zero_le _, Nat.zero_le _⟩ (pl := [none, none, none, none]) (nw := 4) rfl (by decide +kernel) (w2 := (ws_X11_digest cI cJ cZ cA q_M q_M_now q_M_below q_M_above u_M_images u_M_kept u_M_text u_M_refused u_M_at u_M_begin u_M_kind u_M_value u_M_read u_M_acts u_M_act u_M_waits u_M_wait u_M_held u_M_place u_M_heap u_M_clocks u_M_counts u_M_talking u_M_most u_M_hasA u_M_hasB u_M_talks u_M_big v_M_size v_M_sign v_M_manyAbove v_M_manyBelow a_M_now a_M_below a_M_above)) rfl (st1 := [.long v29]) rfl (fun H locs hP hD hS => ?_)
        refine lv_aload_n hx hb dX11_digest_200 rfl (lv_at hl 0 rfl) ?_
        refine zget (C := RX11) (T := TX11) (N := 31) S hK hP 0 rfl rfl 0 (Nat.le_of_ble_eq_true rfl) zf_11 zw_149 rfl dX11_digest_201 ?_
        refine lv_bipush (v := 87) hx hb dX11_digest_204 (by decide) ?_
        refine lv_iload_n hx hb dX11_digest_206 rfl (lv_at hl 2 rfl) ?_
        refine lv_iadd hx hb dX11_digest_207 ?_
        obtain ⟨h31, hg⟩ := zck hg
        refine ziald hx hb hK hP 1 0 rfl rfl (j := ((87 + x3).toNatClampNeg)) h31 rfl dX11_digest_208 ?_
        refine lv_i2l hx hb dX11_digest_209 rfl ?_
        obtain ⟨v32, hc33, hg⟩ := zbd hg
        refine zcallS (rest := []) S (c_X11_mixed l D cI cJ cZ cA ga v29 ((a_M_now ((87 + x3).toNatClampNeg)).toInt64) v32 hc33) (zgS zw_1093 zw_1094 zw_5 zw_1095) rfl hd_X11_mixed ⟨rfl, rfl⟩ ⟨Nat.le_of_ble_eq_true rfl, Nat.le_of_ble_eq_true rfl⟩ rfl hl.1 rfl (Nat.le_of_ble_eq_true rfl) dX11_digest_210 hP hD hS hA hK hG (isC := []) rfl (by decide +kernel) rfl ⟨Nat.zero_le _, Nat.zero_le _⟩ (pl := [none, none, none, none]) (nw := 4) rfl (by decide +kernel) (w2 := (ws_X11_digest cI cJ cZ cA q_M q_M_now q_M_below q_M_above u_M_images u_M_kept u_M_text u_M_refused u_M_at u_M_begin u_M_kind u_M_value u_M_read u_M_acts u_M_act u_M_waits u_M_wait u_M_held u_M_place u_M_heap u_M_clocks u_M_counts u_M_talking u_M_most u_M_hasA u_M_hasB u_M_talks u_M_big v_M_size v_M_sign v_M_manyAbove v_M_manyBelow a_M_now a_M_below a_M_above)) rfl (st1 := [.long v32]) rfl (fun H locs hP hD hS => ?_)
        refine lv_lstore_n (lv' := [(1, .long v32), (0, .ref q_M), (3, .int x3)]) hx hb dX11_digest_213 rfl hl (by decide) rfl (fun ls hl => ?_)
        refine lv_iinc (k := 2) (v := x3 + 1) (lv' := [(3, .int (x3 + 1)), (1, .long v32), (0, .ref q_M)]) hx hb dX11_digest_214 hl rfl (zinc (by decide)) (by decide) rfl (fun ls hl => ?_)
        refine lv_goto (tgt := 163) hx hb dX11_digest_217 (by decide) ?_
        exact ih v32 (x3 + 1) _ _ _ (lv_sub hl [2, 1, 0] rfl) hP hD hS hg
  have B104 : ∀  (n : Nat) (x1 : Int64) (x3 : Int32) (H : Heap) (locs : List Loc) (ls : Array Slot) (hl : lv_has ls 4 [(0, .ref q_M), (1, .long x1), (3, .int x3)]) (hP : va_P D vwCl (ws_X11_digest cI cJ cZ cA q_M q_M_now q_M_below q_M_above u_M_images u_M_kept u_M_text u_M_refused u_M_at u_M_begin u_M_kind u_M_value u_M_read u_M_acts u_M_act u_M_waits u_M_wait u_M_held u_M_place u_M_heap u_M_clocks u_M_counts u_M_talking u_M_most u_M_hasA u_M_hasB u_M_talks u_M_big v_M_size v_M_sign v_M_manyAbove v_M_manyBelow a_M_now a_M_below a_M_above) H) (hD : va_D A (ws_X11_digest cI cJ cZ cA q_M q_M_now q_M_below q_M_above u_M_images u_M_kept u_M_text u_M_refused u_M_at u_M_begin u_M_kind u_M_value u_M_read u_M_acts u_M_act u_M_waits u_M_wait u_M_held u_M_place u_M_heap u_M_clocks u_M_counts u_M_talking u_M_most u_M_hasA u_M_hasB u_M_talks u_M_big v_M_size v_M_sign v_M_manyAbove v_M_manyBelow a_M_now a_M_below a_M_above)) (hS : va_S A s.heap H locs), g_X11_digest_104 v_M_size v_M_sign v_M_manyAbove v_M_manyBelow a_M_now a_M_below a_M_above n x1 x3 = some o → W p l e rm_X11_digest s m args below meth c H locs 0 0 Q (F0 m 104 ls []) := by
    intro  n
    induction n with
    | zero => intro x1 x3 H locs ls hl hP hD hS hg; exact nomatch (show (none : Option (Int64)) = some o from hg)
    | succ n ih =>
      intro x1 x3 H locs ls hl hP hD hS hg
      have hg : g_X11_digest_104b v_M_size v_M_sign v_M_manyAbove v_M_manyBelow a_M_now a_M_below a_M_above (g_X11_digest_104 v_M_size v_M_sign v_M_manyAbove v_M_manyBelow a_M_now a_M_below a_M_above n) x1 x3 = some o := hg
      refine lv_iload_n hx hb dX11_digest_104 rfl (lv_at hl 2 rfl) ?_
      refine lv_aload_n hx hb dX11_digest_105 rfl (lv_at hl 0 rfl) ?_
      refine zget (C := RX11) (T := TX11) (N := 31) S hK hP 0 rfl rfl 0 (Nat.le_of_ble_eq_true rfl) zf_11 zw_149 rfl dX11_digest_106 ?_
      refine lv_iconst (v := 4) hx hb dX11_digest_109 (by decide) ?_
      refine ziald hx hb hK hP 1 0 rfl rfl (j := 4) (zin (by decide)) (by decide) dX11_digest_110 ?_
      refine lv_icmp_ge (tgt := 161) hx hb dX11_digest_111 (by decide) (fun h111 => ?_) (fun h111 => ?_)
      · have hg := zp hg h111
        refine lv_iconst (v := 0) hx hb dX11_digest_161 (by decide) ?_
        refine lv_istore_n (lv' := [(3, .int 0), (0, .ref q_M), (1, .long x1)]) hx hb dX11_digest_162 rfl hl (by decide) rfl (fun ls hl => ?_)
        exact B163 zF x1 0 _ _ _ (lv_sub hl [1, 2, 0] rfl) hP hD hS hg
      · have hg := zn hg h111
        refine lv_lload_n hx hb dX11_digest_114 rfl (lv_at hl 1 rfl) ?_
        refine lv_aload_n hx hb dX11_digest_115 rfl (lv_at hl 0 rfl) ?_
        refine zget (C := RX11) (T := TX11) (N := 31) S hK hP 0 rfl rfl 0 (Nat.le_of_ble_eq_true rfl) zf_11 zw_149 rfl dX11_digest_116 ?_
        refine lv_bipush (v := 23) hx hb dX11_digest_119 (by decide) ?_
        refine lv_iload_n hx hb dX11_digest_121 rfl (lv_at hl 2 rfl) ?_
        refine lv_iadd hx hb dX11_digest_122 ?_
        obtain ⟨h34, hg⟩ := zck hg
        refine ziald hx hb hK hP 1 0 rfl rfl (j := ((23 + x3).toNatClampNeg)) h34 rfl dX11_digest_123 ?_
        refine lv_i2l hx hb dX11_digest_124 rfl ?_
        obtain ⟨v35, hc36, hg⟩ := zbd hg
        refine zcallS (rest := []) S (c_X11_mixed l D cI cJ cZ cA ga x1 ((a_M_now ((23 + x3).toNatClampNeg)).toInt64) v35 hc36) (zgS zw_1093 zw_1094 zw_5 zw_1095) rfl hd_X11_mixed ⟨rfl, rfl⟩ ⟨Nat.le_of_ble_eq_true rfl, Nat.le_of_ble_eq_true rfl⟩ rfl hl.1 rfl (Nat.le_of_ble_eq_true rfl) dX11_digest_125 hP hD hS hA hK hG (isC := []) rfl (by decide +kernel) rfl ⟨Nat.zero_le _, Nat.zero_le _⟩ (pl := [none, none, none, none]) (nw := 4) rfl (by decide +kernel) (w2 := (ws_X11_digest cI cJ cZ cA q_M q_M_now q_M_below q_M_above u_M_images u_M_kept u_M_text u_M_refused u_M_at u_M_begin u_M_kind u_M_value u_M_read u_M_acts u_M_act u_M_waits u_M_wait u_M_held u_M_place u_M_heap u_M_clocks u_M_counts u_M_talking u_M_most u_M_hasA u_M_hasB u_M_talks u_M_big v_M_size v_M_sign v_M_manyAbove v_M_manyBelow a_M_now a_M_below a_M_above)) rfl (st1 := [.long v35]) rfl (fun H locs hP hD hS => ?_)
        refine lv_aload_n hx hb dX11_digest_128 rfl (lv_at hl 0 rfl) ?_
        refine zget (C := RX11) (T := TX11) (N := 31) S hK hP 0 rfl rfl 0 (Nat.le_of_ble_eq_true rfl) zf_11 zw_149 rfl dX11_digest_129 ?_
        refine lv_bipush (v := 39) hx hb dX11_digest_132 (by decide) ?_
        refine lv_iload_n hx hb dX11_digest_134 rfl (lv_at hl 2 rfl) ?_
        refine lv_iadd hx hb dX11_digest_135 ?_
        obtain ⟨h37, hg⟩ := zck hg
        refine ziald hx hb hK hP 1 0 rfl rfl (j := ((39 + x3).toNatClampNeg)) h37 rfl dX11_digest_136 ?_
        refine lv_i2l hx hb dX11_digest_137 rfl ?_
        obtain ⟨v38, hc39, hg⟩ := zbd hg
        refine zcallS (rest := []) S (c_X11_mixed l D cI cJ cZ cA ga v35 ((a_M_now ((39 + x3).toNatClampNeg)).toInt64) v38 hc39) (zgS zw_1093 zw_1094 zw_5 zw_1095) rfl hd_X11_mixed ⟨rfl, rfl⟩ ⟨Nat.le_of_ble_eq_true rfl, Nat.le_of_ble_eq_true rfl⟩ rfl hl.1 rfl (Nat.le_of_ble_eq_true rfl) dX11_digest_138 hP hD hS hA hK hG (isC := []) rfl (by decide +kernel) rfl ⟨Nat.zero_le _, Nat.zero_le _⟩ (pl := [none, none, none, none]) (nw := 4) rfl (by decide +kernel) (w2 := (ws_X11_digest cI cJ cZ cA q_M q_M_now q_M_below q_M_above u_M_images u_M_kept u_M_text u_M_refused u_M_at u_M_begin u_M_kind u_M_value u_M_read u_M_acts u_M_act u_M_waits u_M_wait u_M_held u_M_place u_M_heap u_M_clocks u_M_counts u_M_talking u_M_most u_M_hasA u_M_hasB u_M_talks u_M_big v_M_size v_M_sign v_M_manyAbove v_M_manyBelow a_M_now a_M_below a_M_above)) rfl (st1 := [.long v38]) rfl (fun H locs hP hD hS => ?_)
        refine lv_aload_n hx hb dX11_digest_141 rfl (lv_at hl 0 rfl) ?_
        refine zget (C := RX11) (T := TX11) (N := 31) S hK hP 0 rfl rfl 0 (Nat.le_of_ble_eq_true rfl) zf_11 zw_149 rfl dX11_digest_142 ?_
        refine lv_bipush (v := 55) hx hb dX11_digest_145 (by decide) ?_
        refine lv_iload_n hx hb dX11_digest_147 rfl (lv_at hl 2 rfl) ?_
        refine lv_iadd hx hb dX11_digest_148 ?_
        obtain ⟨h40, hg⟩ := zck hg
        refine ziald hx hb hK hP 1 0 rfl rfl (j := ((55 + x3).toNatClampNeg)) h40 rfl dX11_digest_149 ?_
        refine lv_i2l hx hb dX11_digest_150 rfl ?_
        obtain ⟨v41, hc42, hg⟩ := zbd hg
        refine zcallS (rest := []) S (c_X11_mixed l D cI cJ cZ cA ga v38 ((a_M_now ((55 + x3).toNatClampNeg)).toInt64) v41 hc42) (zgS zw_1093 zw_1094 zw_5 zw_1095) rfl hd_X11_mixed ⟨rfl, rfl⟩ ⟨Nat.le_of_ble_eq_true rfl, Nat.le_of_ble_eq_true rfl⟩ rfl hl.1 rfl (Nat.le_of_ble_eq_true rfl) dX11_digest_151 hP hD hS hA hK hG (isC := []) rfl (by decide +kernel) rfl ⟨Nat.zero_le _, Nat.zero_le _⟩ (pl := [none, none, none, none]) (nw := 4) rfl (by decide +kernel) (w2 := (ws_X11_digest cI cJ cZ cA q_M q_M_now q_M_below q_M_above u_M_images u_M_kept u_M_text u_M_refused u_M_at u_M_begin u_M_kind u_M_value u_M_read u_M_acts u_M_act u_M_waits u_M_wait u_M_held u_M_place u_M_heap u_M_clocks u_M_counts u_M_talking u_M_most u_M_hasA u_M_hasB u_M_talks u_M_big v_M_size v_M_sign v_M_manyAbove v_M_manyBelow a_M_now a_M_below a_M_above)) rfl (st1 := [.long v41]) rfl (fun H locs hP hD hS => ?_)
        refine lv_lstore_n (lv' := [(1, .long v41), (0, .ref q_M), (3, .int x3)]) hx hb dX11_digest_154 rfl hl (by decide) rfl (fun ls hl => ?_)
        refine lv_iinc (k := 2) (v := x3 + 1) (lv' := [(3, .int (x3 + 1)), (1, .long v41), (0, .ref q_M)]) hx hb dX11_digest_155 hl rfl (zinc (by decide)) (by decide) rfl (fun ls hl => ?_)
        refine lv_goto (tgt := 104) hx hb dX11_digest_158 (by decide) ?_
        exact ih v41 (x3 + 1) _ _ _ (lv_sub hl [2, 1, 0] rfl) hP hD hS hg
  have B58 : ∀  (n : Nat) (x1 : Int64) (x3 : Int32) (H : Heap) (locs : List Loc) (ls : Array Slot) (hl : lv_has ls 4 [(0, .ref q_M), (1, .long x1), (3, .int x3)]) (hP : va_P D vwCl (ws_X11_digest cI cJ cZ cA q_M q_M_now q_M_below q_M_above u_M_images u_M_kept u_M_text u_M_refused u_M_at u_M_begin u_M_kind u_M_value u_M_read u_M_acts u_M_act u_M_waits u_M_wait u_M_held u_M_place u_M_heap u_M_clocks u_M_counts u_M_talking u_M_most u_M_hasA u_M_hasB u_M_talks u_M_big v_M_size v_M_sign v_M_manyAbove v_M_manyBelow a_M_now a_M_below a_M_above) H) (hD : va_D A (ws_X11_digest cI cJ cZ cA q_M q_M_now q_M_below q_M_above u_M_images u_M_kept u_M_text u_M_refused u_M_at u_M_begin u_M_kind u_M_value u_M_read u_M_acts u_M_act u_M_waits u_M_wait u_M_held u_M_place u_M_heap u_M_clocks u_M_counts u_M_talking u_M_most u_M_hasA u_M_hasB u_M_talks u_M_big v_M_size v_M_sign v_M_manyAbove v_M_manyBelow a_M_now a_M_below a_M_above)) (hS : va_S A s.heap H locs), g_X11_digest_58 v_M_size v_M_sign v_M_manyAbove v_M_manyBelow a_M_now a_M_below a_M_above n x1 x3 = some o → W p l e rm_X11_digest s m args below meth c H locs 0 0 Q (F0 m 58 ls []) := by
    intro  n
    induction n with
    | zero => intro x1 x3 H locs ls hl hP hD hS hg; exact nomatch (show (none : Option (Int64)) = some o from hg)
    | succ n ih =>
      intro x1 x3 H locs ls hl hP hD hS hg
      have hg : g_X11_digest_58b v_M_size v_M_sign v_M_manyAbove v_M_manyBelow a_M_now a_M_below a_M_above (g_X11_digest_58 v_M_size v_M_sign v_M_manyAbove v_M_manyBelow a_M_now a_M_below a_M_above n) x1 x3 = some o := hg
      refine lv_iload_n hx hb dX11_digest_58 rfl (lv_at hl 2 rfl) ?_
      refine lv_aload_n hx hb dX11_digest_59 rfl (lv_at hl 0 rfl) ?_
      refine zget (C := RX11) (T := TX11) (N := 31) S hK hP 0 rfl rfl 0 (Nat.le_of_ble_eq_true rfl) zf_11 zw_149 rfl dX11_digest_60 ?_
      refine lv_iconst (v := 3) hx hb dX11_digest_63 (by decide) ?_
      refine ziald hx hb hK hP 1 0 rfl rfl (j := 3) (zin (by decide)) (by decide) dX11_digest_64 ?_
      refine lv_icmp_ge (tgt := 102) hx hb dX11_digest_65 (by decide) (fun h65 => ?_) (fun h65 => ?_)
      · have hg := zp hg h65
        refine lv_iconst (v := 0) hx hb dX11_digest_102 (by decide) ?_
        refine lv_istore_n (lv' := [(3, .int 0), (0, .ref q_M), (1, .long x1)]) hx hb dX11_digest_103 rfl hl (by decide) rfl (fun ls hl => ?_)
        exact B104 zF x1 0 _ _ _ (lv_sub hl [1, 2, 0] rfl) hP hD hS hg
      · have hg := zn hg h65
        refine lv_lload_n hx hb dX11_digest_68 rfl (lv_at hl 1 rfl) ?_
        refine lv_aload_n hx hb dX11_digest_69 rfl (lv_at hl 0 rfl) ?_
        refine zget (C := RX11) (T := TX11) (N := 31) S hK hP 0 rfl rfl 0 (Nat.le_of_ble_eq_true rfl) zf_11 zw_149 rfl dX11_digest_70 ?_
        refine lv_bipush (v := 13) hx hb dX11_digest_73 (by decide) ?_
        refine lv_iload_n hx hb dX11_digest_75 rfl (lv_at hl 2 rfl) ?_
        refine lv_iadd hx hb dX11_digest_76 ?_
        obtain ⟨h43, hg⟩ := zck hg
        refine ziald hx hb hK hP 1 0 rfl rfl (j := ((13 + x3).toNatClampNeg)) h43 rfl dX11_digest_77 ?_
        refine lv_i2l hx hb dX11_digest_78 rfl ?_
        obtain ⟨v44, hc45, hg⟩ := zbd hg
        refine zcallS (rest := []) S (c_X11_mixed l D cI cJ cZ cA ga x1 ((a_M_now ((13 + x3).toNatClampNeg)).toInt64) v44 hc45) (zgS zw_1093 zw_1094 zw_5 zw_1095) rfl hd_X11_mixed ⟨rfl, rfl⟩ ⟨Nat.le_of_ble_eq_true rfl, Nat.le_of_ble_eq_true rfl⟩ rfl hl.1 rfl (Nat.le_of_ble_eq_true rfl) dX11_digest_79 hP hD hS hA hK hG (isC := []) rfl (by decide +kernel) rfl ⟨Nat.zero_le _, Nat.zero_le _⟩ (pl := [none, none, none, none]) (nw := 4) rfl (by decide +kernel) (w2 := (ws_X11_digest cI cJ cZ cA q_M q_M_now q_M_below q_M_above u_M_images u_M_kept u_M_text u_M_refused u_M_at u_M_begin u_M_kind u_M_value u_M_read u_M_acts u_M_act u_M_waits u_M_wait u_M_held u_M_place u_M_heap u_M_clocks u_M_counts u_M_talking u_M_most u_M_hasA u_M_hasB u_M_talks u_M_big v_M_size v_M_sign v_M_manyAbove v_M_manyBelow a_M_now a_M_below a_M_above)) rfl (st1 := [.long v44]) rfl (fun H locs hP hD hS => ?_)
        refine lv_aload_n hx hb dX11_digest_82 rfl (lv_at hl 0 rfl) ?_
        refine zget (C := RX11) (T := TX11) (N := 31) S hK hP 0 rfl rfl 0 (Nat.le_of_ble_eq_true rfl) zf_11 zw_149 rfl dX11_digest_83 ?_
        refine lv_bipush (v := 18) hx hb dX11_digest_86 (by decide) ?_
        refine lv_iload_n hx hb dX11_digest_88 rfl (lv_at hl 2 rfl) ?_
        refine lv_iadd hx hb dX11_digest_89 ?_
        obtain ⟨h46, hg⟩ := zck hg
        refine ziald hx hb hK hP 1 0 rfl rfl (j := ((18 + x3).toNatClampNeg)) h46 rfl dX11_digest_90 ?_
        refine lv_i2l hx hb dX11_digest_91 rfl ?_
        obtain ⟨v47, hc48, hg⟩ := zbd hg
        refine zcallS (rest := []) S (c_X11_mixed l D cI cJ cZ cA ga v44 ((a_M_now ((18 + x3).toNatClampNeg)).toInt64) v47 hc48) (zgS zw_1093 zw_1094 zw_5 zw_1095) rfl hd_X11_mixed ⟨rfl, rfl⟩ ⟨Nat.le_of_ble_eq_true rfl, Nat.le_of_ble_eq_true rfl⟩ rfl hl.1 rfl (Nat.le_of_ble_eq_true rfl) dX11_digest_92 hP hD hS hA hK hG (isC := []) rfl (by decide +kernel) rfl ⟨Nat.zero_le _, Nat.zero_le _⟩ (pl := [none, none, none, none]) (nw := 4) rfl (by decide +kernel) (w2 := (ws_X11_digest cI cJ cZ cA q_M q_M_now q_M_below q_M_above u_M_images u_M_kept u_M_text u_M_refused u_M_at u_M_begin u_M_kind u_M_value u_M_read u_M_acts u_M_act u_M_waits u_M_wait u_M_held u_M_place u_M_heap u_M_clocks u_M_counts u_M_talking u_M_most u_M_hasA u_M_hasB u_M_talks u_M_big v_M_size v_M_sign v_M_manyAbove v_M_manyBelow a_M_now a_M_below a_M_above)) rfl (st1 := [.long v47]) rfl (fun H locs hP hD hS => ?_)
        refine lv_lstore_n (lv' := [(1, .long v47), (0, .ref q_M), (3, .int x3)]) hx hb dX11_digest_95 rfl hl (by decide) rfl (fun ls hl => ?_)
        refine lv_iinc (k := 2) (v := x3 + 1) (lv' := [(3, .int (x3 + 1)), (1, .long v47), (0, .ref q_M)]) hx hb dX11_digest_96 hl rfl (zinc (by decide)) (by decide) rfl (fun ls hl => ?_)
        refine lv_goto (tgt := 58) hx hb dX11_digest_99 (by decide) ?_
        exact ih v47 (x3 + 1) _ _ _ (lv_sub hl [2, 1, 0] rfl) hP hD hS hg
  have B31 : ∀  (n : Nat) (x1 : Int64) (x3 : Int32) (H : Heap) (locs : List Loc) (ls : Array Slot) (hl : lv_has ls 4 [(0, .ref q_M), (1, .long x1), (3, .int x3)]) (hP : va_P D vwCl (ws_X11_digest cI cJ cZ cA q_M q_M_now q_M_below q_M_above u_M_images u_M_kept u_M_text u_M_refused u_M_at u_M_begin u_M_kind u_M_value u_M_read u_M_acts u_M_act u_M_waits u_M_wait u_M_held u_M_place u_M_heap u_M_clocks u_M_counts u_M_talking u_M_most u_M_hasA u_M_hasB u_M_talks u_M_big v_M_size v_M_sign v_M_manyAbove v_M_manyBelow a_M_now a_M_below a_M_above) H) (hD : va_D A (ws_X11_digest cI cJ cZ cA q_M q_M_now q_M_below q_M_above u_M_images u_M_kept u_M_text u_M_refused u_M_at u_M_begin u_M_kind u_M_value u_M_read u_M_acts u_M_act u_M_waits u_M_wait u_M_held u_M_place u_M_heap u_M_clocks u_M_counts u_M_talking u_M_most u_M_hasA u_M_hasB u_M_talks u_M_big v_M_size v_M_sign v_M_manyAbove v_M_manyBelow a_M_now a_M_below a_M_above)) (hS : va_S A s.heap H locs), g_X11_digest_31 v_M_size v_M_sign v_M_manyAbove v_M_manyBelow a_M_now a_M_below a_M_above n x1 x3 = some o → W p l e rm_X11_digest s m args below meth c H locs 0 0 Q (F0 m 31 ls []) := by
    intro  n
    induction n with
    | zero => intro x1 x3 H locs ls hl hP hD hS hg; exact nomatch (show (none : Option (Int64)) = some o from hg)
    | succ n ih =>
      intro x1 x3 H locs ls hl hP hD hS hg
      have hg : g_X11_digest_31b v_M_size v_M_sign v_M_manyAbove v_M_manyBelow a_M_now a_M_below a_M_above (g_X11_digest_31 v_M_size v_M_sign v_M_manyAbove v_M_manyBelow a_M_now a_M_below a_M_above n) x1 x3 = some o := hg
      refine lv_iload_n hx hb dX11_digest_31 rfl (lv_at hl 2 rfl) ?_
      refine lv_iconst (v := 3) hx hb dX11_digest_32 (by decide) ?_
      refine lv_icmp_ge (tgt := 56) hx hb dX11_digest_33 (by decide) (fun h33 => ?_) (fun h33 => ?_)
      · have hg := zp hg h33
        refine lv_iconst (v := 0) hx hb dX11_digest_56 (by decide) ?_
        refine lv_istore_n (lv' := [(3, .int 0), (0, .ref q_M), (1, .long x1)]) hx hb dX11_digest_57 rfl hl (by decide) rfl (fun ls hl => ?_)
        exact B58 zF x1 0 _ _ _ (lv_sub hl [1, 2, 0] rfl) hP hD hS hg
      · have hg := zn hg h33
        refine lv_lload_n hx hb dX11_digest_36 rfl (lv_at hl 1 rfl) ?_
        refine lv_aload_n hx hb dX11_digest_37 rfl (lv_at hl 0 rfl) ?_
        refine zget (C := RX11) (T := TX11) (N := 31) S hK hP 0 rfl rfl 0 (Nat.le_of_ble_eq_true rfl) zf_11 zw_149 rfl dX11_digest_38 ?_
        refine lv_iconst (v := 0) hx hb dX11_digest_41 (by decide) ?_
        refine lv_iload_n hx hb dX11_digest_42 rfl (lv_at hl 2 rfl) ?_
        refine lv_iadd hx hb dX11_digest_43 ?_
        obtain ⟨h49, hg⟩ := zck hg
        refine ziald hx hb hK hP 1 0 rfl rfl (j := ((0 + x3).toNatClampNeg)) h49 rfl dX11_digest_44 ?_
        refine lv_i2l hx hb dX11_digest_45 rfl ?_
        obtain ⟨v50, hc51, hg⟩ := zbd hg
        refine zcallS (rest := []) S (c_X11_mixed l D cI cJ cZ cA ga x1 ((a_M_now ((0 + x3).toNatClampNeg)).toInt64) v50 hc51) (zgS zw_1093 zw_1094 zw_5 zw_1095) rfl hd_X11_mixed ⟨rfl, rfl⟩ ⟨Nat.le_of_ble_eq_true rfl, Nat.le_of_ble_eq_true rfl⟩ rfl hl.1 rfl (Nat.le_of_ble_eq_true rfl) dX11_digest_46 hP hD hS hA hK hG (isC := []) rfl (by decide +kernel) rfl ⟨Nat.zero_le _, Nat.zero_le _⟩ (pl := [none, none, none, none]) (nw := 4) rfl (by decide +kernel) (w2 := (ws_X11_digest cI cJ cZ cA q_M q_M_now q_M_below q_M_above u_M_images u_M_kept u_M_text u_M_refused u_M_at u_M_begin u_M_kind u_M_value u_M_read u_M_acts u_M_act u_M_waits u_M_wait u_M_held u_M_place u_M_heap u_M_clocks u_M_counts u_M_talking u_M_most u_M_hasA u_M_hasB u_M_talks u_M_big v_M_size v_M_sign v_M_manyAbove v_M_manyBelow a_M_now a_M_below a_M_above)) rfl (st1 := [.long v50]) rfl (fun H locs hP hD hS => ?_)
        refine lv_lstore_n (lv' := [(1, .long v50), (0, .ref q_M), (3, .int x3)]) hx hb dX11_digest_49 rfl hl (by decide) rfl (fun ls hl => ?_)
        refine lv_iinc (k := 2) (v := x3 + 1) (lv' := [(3, .int (x3 + 1)), (1, .long v50), (0, .ref q_M)]) hx hb dX11_digest_50 hl rfl (zinc (by decide)) (by decide) rfl (fun ls hl => ?_)
        refine lv_goto (tgt := 31) hx hb dX11_digest_53 (by decide) ?_
        exact ih v50 (x3 + 1) _ _ _ (lv_sub hl [2, 1, 0] rfl) hP hD hS hg
  have B6 : ∀  (n : Nat) (x1 : Int64) (x3 : Int32) (H : Heap) (locs : List Loc) (ls : Array Slot) (hl : lv_has ls 4 [(0, .ref q_M), (1, .long x1), (3, .int x3)]) (hP : va_P D vwCl (ws_X11_digest cI cJ cZ cA q_M q_M_now q_M_below q_M_above u_M_images u_M_kept u_M_text u_M_refused u_M_at u_M_begin u_M_kind u_M_value u_M_read u_M_acts u_M_act u_M_waits u_M_wait u_M_held u_M_place u_M_heap u_M_clocks u_M_counts u_M_talking u_M_most u_M_hasA u_M_hasB u_M_talks u_M_big v_M_size v_M_sign v_M_manyAbove v_M_manyBelow a_M_now a_M_below a_M_above) H) (hD : va_D A (ws_X11_digest cI cJ cZ cA q_M q_M_now q_M_below q_M_above u_M_images u_M_kept u_M_text u_M_refused u_M_at u_M_begin u_M_kind u_M_value u_M_read u_M_acts u_M_act u_M_waits u_M_wait u_M_held u_M_place u_M_heap u_M_clocks u_M_counts u_M_talking u_M_most u_M_hasA u_M_hasB u_M_talks u_M_big v_M_size v_M_sign v_M_manyAbove v_M_manyBelow a_M_now a_M_below a_M_above)) (hS : va_S A s.heap H locs), g_X11_digest_6 v_M_size v_M_sign v_M_manyAbove v_M_manyBelow a_M_now a_M_below a_M_above n x1 x3 = some o → W p l e rm_X11_digest s m args below meth c H locs 0 0 Q (F0 m 6 ls []) := by
    intro  n
    induction n with
    | zero => intro x1 x3 H locs ls hl hP hD hS hg; exact nomatch (show (none : Option (Int64)) = some o from hg)
    | succ n ih =>
      intro x1 x3 H locs ls hl hP hD hS hg
      have hg : g_X11_digest_6b v_M_size v_M_sign v_M_manyAbove v_M_manyBelow a_M_now a_M_below a_M_above (g_X11_digest_6 v_M_size v_M_sign v_M_manyAbove v_M_manyBelow a_M_now a_M_below a_M_above n) x1 x3 = some o := hg
      refine lv_iload_n hx hb dX11_digest_6 rfl (lv_at hl 2 rfl) ?_
      refine lv_bipush (v := 6) hx hb dX11_digest_7 (by decide) ?_
      refine lv_icmp_ge (tgt := 29) hx hb dX11_digest_9 (by decide) (fun h9 => ?_) (fun h9 => ?_)
      · have hg := zp hg h9
        refine lv_iconst (v := 0) hx hb dX11_digest_29 (by decide) ?_
        refine lv_istore_n (lv' := [(3, .int 0), (0, .ref q_M), (1, .long x1)]) hx hb dX11_digest_30 rfl hl (by decide) rfl (fun ls hl => ?_)
        exact B31 zF x1 0 _ _ _ (lv_sub hl [1, 2, 0] rfl) hP hD hS hg
      · have hg := zn hg h9
        refine lv_lload_n hx hb dX11_digest_12 rfl (lv_at hl 1 rfl) ?_
        refine lv_aload_n hx hb dX11_digest_13 rfl (lv_at hl 0 rfl) ?_
        refine lv_iload_n hx hb dX11_digest_14 rfl (lv_at hl 2 rfl) ?_
        obtain ⟨v52, hc53, hg⟩ := zbd hg
        refine zcallV (rest := [.long x1]) S (c_X11_counted l D cI cJ cZ cA ga q_M q_M_now u_M_images u_M_kept u_M_text (.int v_M_sign) (.int v_M_manyAbove) (.int v_M_manyBelow) (.ref q_M_above) (.ref q_M_below) u_M_refused u_M_at u_M_begin u_M_kind u_M_value u_M_read u_M_acts u_M_act u_M_waits u_M_wait u_M_held u_M_place u_M_heap u_M_clocks u_M_counts u_M_talking u_M_most u_M_hasA u_M_hasB u_M_talks u_M_big v_M_size a_M_now x3 v52 hc53) (zgV zw_1054 zw_1055 zw_1056 zw_5 zw_1057) rfl hd_X11_counted ⟨rfl, rfl⟩ ⟨Nat.le_of_ble_eq_true rfl, Nat.le_of_ble_eq_true rfl⟩ 0 11 rfl rfl rfl hl.1 rfl (Nat.le_of_ble_eq_true rfl) dX11_digest_15 hP hD hS hA hK hG (isC := [0, 1]) rfl (by decide +kernel) rfl ⟨Nat.zero_le _, Nat.zero_le _⟩ (pl := [some 0, some 1, none, none]) (nw := 4) rfl (by decide +kernel) (w2 := (ws_X11_digest cI cJ cZ cA q_M q_M_now q_M_below q_M_above u_M_images u_M_kept u_M_text u_M_refused u_M_at u_M_begin u_M_kind u_M_value u_M_read u_M_acts u_M_act u_M_waits u_M_wait u_M_held u_M_place u_M_heap u_M_clocks u_M_counts u_M_talking u_M_most u_M_hasA u_M_hasB u_M_talks u_M_big v_M_size v_M_sign v_M_manyAbove v_M_manyBelow a_M_now a_M_below a_M_above)) rfl (st1 := [.int v52, .long x1]) rfl (fun H locs hP hD hS => ?_)
        refine lv_i2l hx hb dX11_digest_18 rfl ?_
        obtain ⟨v54, hc55, hg⟩ := zbd hg
        refine zcallS (rest := []) S (c_X11_mixed l D cI cJ cZ cA ga x1 v52.toInt64 v54 hc55) (zgS zw_1093 zw_1094 zw_5 zw_1095) rfl hd_X11_mixed ⟨rfl, rfl⟩ ⟨Nat.le_of_ble_eq_true rfl, Nat.le_of_ble_eq_true rfl⟩ rfl hl.1 rfl (Nat.le_of_ble_eq_true rfl) dX11_digest_19 hP hD hS hA hK hG (isC := []) rfl (by decide +kernel) rfl ⟨Nat.zero_le _, Nat.zero_le _⟩ (pl := [none, none, none, none]) (nw := 4) rfl (by decide +kernel) (w2 := (ws_X11_digest cI cJ cZ cA q_M q_M_now q_M_below q_M_above u_M_images u_M_kept u_M_text u_M_refused u_M_at u_M_begin u_M_kind u_M_value u_M_read u_M_acts u_M_act u_M_waits u_M_wait u_M_held u_M_place u_M_heap u_M_clocks u_M_counts u_M_talking u_M_most u_M_hasA u_M_hasB u_M_talks u_M_big v_M_size v_M_sign v_M_manyAbove v_M_manyBelow a_M_now a_M_below a_M_above)) rfl (st1 := [.long v54]) rfl (fun H locs hP hD hS => ?_)
        refine lv_lstore_n (lv' := [(1, .long v54), (0, .ref q_M), (3, .int x3)]) hx hb dX11_digest_22 rfl hl (by decide) rfl (fun ls hl => ?_)
        refine lv_iinc (k := 2) (v := x3 + 1) (lv' := [(3, .int (x3 + 1)), (1, .long v54), (0, .ref q_M)]) hx hb dX11_digest_23 hl rfl (zinc (by decide)) (by decide) rfl (fun ls hl => ?_)
        refine lv_goto (tgt := 6) hx hb dX11_digest_26 (by decide) ?_
        exact ih v54 (x3 + 1) _ _ _ (lv_sub hl [2, 1, 0] rfl) hP hD hS hg
  refine lv_ldc2 (v := 701) hx hb S.2.2.2.1 (ht _ zw_1092) dX11_digest_0 ?_
  refine lv_lstore_n (lv' := [(1, .long (701 : Int64)), (0, .ref q_M)]) hx hb dX11_digest_3 rfl hl (by decide) rfl (fun ls hl => ?_)
  refine lv_iconst (v := 0) hx hb dX11_digest_4 (by decide) ?_
  refine lv_istore_n (lv' := [(3, .int 0), (1, .long (701 : Int64)), (0, .ref q_M)]) hx hb dX11_digest_5 rfl hl (by decide) rfl (fun ls hl => ?_)
  exact B6 zF (701 : Int64) 0 _ _ _ (lv_sub hl [2, 1, 0] rfl) hP hD hS hg

