/-! SpokenClockModel.silence(III)I -/
abbrev ws_X11_silence (cI cJ cZ cA : ClassId) (q_M q_M_refused q_M_talks q_M_hasB q_M_hasA q_M_now : Nat) (u_M_images : Value) (u_M_kept : Value) (u_M_text : Value) (u_M_size : Value) (u_M_sign : Value) (u_M_manyAbove : Value) (u_M_manyBelow : Value) (u_M_above : Value) (u_M_below : Value) (u_M_at : Value) (u_M_begin : Value) (u_M_kind : Value) (u_M_value : Value) (u_M_read : Value) (u_M_acts : Value) (u_M_act : Value) (u_M_waits : Value) (u_M_wait : Value) (u_M_held : Value) (u_M_place : Value) (u_M_heap : Value) (u_M_clocks : Value) (u_M_counts : Value) (u_M_talking : Value) (u_M_most : Value) (u_M_big : Value) (a_M_refused : Nat → Int32) (a_M_talks : Nat → Int32) (a_M_hasB : Nat → Int32) (a_M_hasA : Nat → Int32) (a_M_now : Nat → Int32) : va_W := [(q_M, .inr (11, [.ref q_M_now, u_M_images, u_M_kept, u_M_text, u_M_size, u_M_sign, u_M_manyAbove, u_M_manyBelow, u_M_above, u_M_below, .ref q_M_refused, u_M_at, u_M_begin, u_M_kind, u_M_value, u_M_read, u_M_acts, u_M_act, u_M_waits, u_M_wait, u_M_held, u_M_place, u_M_heap, u_M_clocks, u_M_counts, u_M_talking, u_M_most, .ref q_M_hasA, .ref q_M_hasB, .ref q_M_talks, u_M_big])), (q_M_refused, .inl (cI, 3, .inl a_M_refused)), (q_M_talks, .inl (cZ, 861, .inl a_M_talks)), (q_M_hasB, .inl (cI, 861, .inl a_M_hasB)), (q_M_hasA, .inl (cI, 861, .inl a_M_hasA)), (q_M_now, .inl (cI, 155, .inl a_M_now))]
abbrev rm_X11_silence : Room := { frames := 1, cells := 0, slots := 0, locals := 25 }
def g_X11_silence_36 (a_M_now : Nat → Int32) (x1 : Int32) (x2 : Int32) (x3 : Int32) (a_M_refused : Nat → Int32) (a_M_talks : Nat → Int32) (a_M_hasB : Nat → Int32) (a_M_hasA : Nat → Int32) : Option (Int32 × (Nat → Int32) × (Nat → Int32) × (Nat → Int32) × (Nat → Int32)) :=
  (g_X11_worse a_M_refused).bind fun v3 =>
  some (v3.1, v3.2, a_M_talks, a_M_hasB, a_M_hasA)
def g_X11_silence_466 (a_M_now : Nat → Int32) (x1 : Int32) (x2 : Int32) (x3 : Int32) (x4 : Int32) (x5 : Int32) (a_M_refused : Nat → Int32) (a_M_talks : Nat → Int32) (a_M_hasB : Nat → Int32) (a_M_hasA : Nat → Int32) : Option (Int32 × (Nat → Int32) × (Nat → Int32) × (Nat → Int32) × (Nat → Int32)) :=
  if x3 = 2 then (
    some (x4, a_M_refused, a_M_talks, a_M_hasB, a_M_hasA)
  ) else (
    some (x5, a_M_refused, a_M_talks, a_M_hasB, a_M_hasA)
  )
def g_X11_silence_460 (a_M_now : Nat → Int32) (x1 : Int32) (x2 : Int32) (x3 : Int32) (k414 : Int32 → Int32 → Int32 → (Nat → Int32) → (Nat → Int32) → (Nat → Int32) → (Nat → Int32) → Option (Int32 × (Nat → Int32) × (Nat → Int32) × (Nat → Int32) × (Nat → Int32))) (x4 : Int32) (x5 : Int32) (x6 : Int32) (a_M_refused : Nat → Int32) (a_M_talks : Nat → Int32) (a_M_hasB : Nat → Int32) (a_M_hasA : Nat → Int32) : Option (Int32 × (Nat → Int32) × (Nat → Int32) × (Nat → Int32) × (Nat → Int32)) :=
  k414 x4 x5 (x6 + 1) a_M_refused a_M_talks a_M_hasB a_M_hasA
def g_X11_silence_455 (a_M_now : Nat → Int32) (x1 : Int32) (x2 : Int32) (x3 : Int32) (k414 : Int32 → Int32 → Int32 → (Nat → Int32) → (Nat → Int32) → (Nat → Int32) → (Nat → Int32) → Option (Int32 × (Nat → Int32) × (Nat → Int32) × (Nat → Int32) × (Nat → Int32))) (x5 : Int32) (x6 : Int32) (t0 : Int32) (a_M_refused : Nat → Int32) (a_M_talks : Nat → Int32) (a_M_hasB : Nat → Int32) (a_M_hasA : Nat → Int32) : Option (Int32 × (Nat → Int32) × (Nat → Int32) × (Nat → Int32) × (Nat → Int32)) :=
  g_X11_silence_460 a_M_now x1 x2 x3 k414 t0 (x5 + 1) x6 a_M_refused a_M_talks a_M_hasB a_M_hasA
def g_X11_silence_414b (a_M_now : Nat → Int32) (x1 : Int32) (x2 : Int32) (x3 : Int32) (k414 : Int32 → Int32 → Int32 → (Nat → Int32) → (Nat → Int32) → (Nat → Int32) → (Nat → Int32) → Option (Int32 × (Nat → Int32) × (Nat → Int32) × (Nat → Int32) × (Nat → Int32))) (x4 : Int32) (x5 : Int32) (x6 : Int32) (a_M_refused : Nat → Int32) (a_M_talks : Nat → Int32) (a_M_hasB : Nat → Int32) (a_M_hasA : Nat → Int32) : Option (Int32 × (Nat → Int32) × (Nat → Int32) × (Nat → Int32) × (Nat → Int32)) :=
  if x1 ≤ x6 then (
    g_X11_silence_466 a_M_now x1 x2 x3 x4 x5 a_M_refused a_M_talks a_M_hasB a_M_hasA
  ) else (
    if x2 ≤ x5 then (
      g_X11_silence_466 a_M_now x1 x2 x3 x4 x5 a_M_refused a_M_talks a_M_hasB a_M_hasA
    ) else (
      if ((21 * x6) + x5) < 0 ∨ 861 ≤ ((21 * x6) + x5).toNatClampNeg then none else
      if (a_M_talks (((21 * x6) + x5).toNatClampNeg)) = 0 then (
        g_X11_silence_460 a_M_now x1 x2 x3 k414 x4 x5 x6 a_M_refused a_M_talks a_M_hasB a_M_hasA
      ) else (
        if x4 = (-1) then (
          g_X11_silence_455 a_M_now x1 x2 x3 k414 x5 x6 x6 a_M_refused a_M_talks a_M_hasB a_M_hasA
        ) else (
          g_X11_silence_455 a_M_now x1 x2 x3 k414 x5 x6 x4 a_M_refused a_M_talks a_M_hasB a_M_hasA
        )
      )
    )
  )
def g_X11_silence_414 (a_M_now : Nat → Int32) (x1 : Int32) (x2 : Int32) (x3 : Int32) : Nat → Int32 → Int32 → Int32 → (Nat → Int32) → (Nat → Int32) → (Nat → Int32) → (Nat → Int32) → Option (Int32 × (Nat → Int32) × (Nat → Int32) × (Nat → Int32) × (Nat → Int32))
  | 0, _, _, _, _, _, _, _ => none
  | n + 1, x4, x5, x6, a_M_refused, a_M_talks, a_M_hasB, a_M_hasA => g_X11_silence_414b a_M_now x1 x2 x3 (g_X11_silence_414 a_M_now x1 x2 x3 n) x4 x5 x6 a_M_refused a_M_talks a_M_hasB a_M_hasA
def g_X11_silence_368 (a_M_now : Nat → Int32) (x1 : Int32) (x2 : Int32) (x3 : Int32) (k44 : Int32 → (Nat → Int32) → (Nat → Int32) → (Nat → Int32) → (Nat → Int32) → Option (Int32 × (Nat → Int32) × (Nat → Int32) × (Nat → Int32) × (Nat → Int32))) (k52 : Int32 → Int32 → (Nat → Int32) → (Nat → Int32) → (Nat → Int32) → (Nat → Int32) → Option (Int32 × (Nat → Int32) × (Nat → Int32) × (Nat → Int32) × (Nat → Int32))) (x4 : Int32) (x5 : Int32) (a_M_refused : Nat → Int32) (a_M_talks : Nat → Int32) (a_M_hasB : Nat → Int32) (a_M_hasA : Nat → Int32) : Option (Int32 × (Nat → Int32) × (Nat → Int32) × (Nat → Int32) × (Nat → Int32)) :=
  k52 x4 (x5 + 1) a_M_refused a_M_talks a_M_hasB a_M_hasA
def g_X11_silence_367 (a_M_now : Nat → Int32) (x1 : Int32) (x2 : Int32) (x3 : Int32) (k44 : Int32 → (Nat → Int32) → (Nat → Int32) → (Nat → Int32) → (Nat → Int32) → Option (Int32 × (Nat → Int32) × (Nat → Int32) × (Nat → Int32) × (Nat → Int32))) (k52 : Int32 → Int32 → (Nat → Int32) → (Nat → Int32) → (Nat → Int32) → (Nat → Int32) → Option (Int32 × (Nat → Int32) × (Nat → Int32) × (Nat → Int32) × (Nat → Int32))) (x4 : Int32) (x5 : Int32) (t1 : Int32) (t2 : Int32) (a_M_refused : Nat → Int32) (a_M_talks : Nat → Int32) (a_M_hasB : Nat → Int32) (a_M_hasA : Nat → Int32) : Option (Int32 × (Nat → Int32) × (Nat → Int32) × (Nat → Int32) × (Nat → Int32)) :=
  if t1 < 0 ∨ 861 ≤ t1.toNatClampNeg then none else
  g_X11_silence_368 a_M_now x1 x2 x3 k44 k52 x4 x5 a_M_refused a_M_talks (upd a_M_hasB (t1.toNatClampNeg) t2) a_M_hasA
def g_X11_silence_348 (a_M_now : Nat → Int32) (x1 : Int32) (x2 : Int32) (x3 : Int32) (k44 : Int32 → (Nat → Int32) → (Nat → Int32) → (Nat → Int32) → (Nat → Int32) → Option (Int32 × (Nat → Int32) × (Nat → Int32) × (Nat → Int32) × (Nat → Int32))) (k52 : Int32 → Int32 → (Nat → Int32) → (Nat → Int32) → (Nat → Int32) → (Nat → Int32) → Option (Int32 × (Nat → Int32) × (Nat → Int32) × (Nat → Int32) × (Nat → Int32))) (x4 : Int32) (x5 : Int32) (t1 : Int32) (t2 : Int32) (t3 : Int32) (a_M_refused : Nat → Int32) (a_M_talks : Nat → Int32) (a_M_hasB : Nat → Int32) (a_M_hasA : Nat → Int32) : Option (Int32 × (Nat → Int32) × (Nat → Int32) × (Nat → Int32) × (Nat → Int32)) :=
  g_X11_silence_367 a_M_now x1 x2 x3 k44 k52 x4 x5 t1 (t2 - t3) a_M_refused a_M_talks a_M_hasB a_M_hasA
def g_X11_silence_308 (a_M_now : Nat → Int32) (x1 : Int32) (x2 : Int32) (x3 : Int32) (k44 : Int32 → (Nat → Int32) → (Nat → Int32) → (Nat → Int32) → (Nat → Int32) → Option (Int32 × (Nat → Int32) × (Nat → Int32) × (Nat → Int32) × (Nat → Int32))) (k52 : Int32 → Int32 → (Nat → Int32) → (Nat → Int32) → (Nat → Int32) → (Nat → Int32) → Option (Int32 × (Nat → Int32) × (Nat → Int32) × (Nat → Int32) × (Nat → Int32))) (x4 : Int32) (x5 : Int32) (x6 : Int32) (x7 : Int32) (x8 : Int32) (x9 : Int32) (t1 : Int32) (t2 : Int32) (a_M_refused : Nat → Int32) (a_M_talks : Nat → Int32) (a_M_hasB : Nat → Int32) (a_M_hasA : Nat → Int32) : Option (Int32 × (Nat → Int32) × (Nat → Int32) × (Nat → Int32) × (Nat → Int32)) :=
  if t1 < 0 ∨ 861 ≤ t1.toNatClampNeg then none else
  if x6 < 0 ∨ 861 ≤ x6.toNatClampNeg then none else
  if (a_M_talks (x6.toNatClampNeg)) = 0 then (
    if x8 < 0 ∨ 861 ≤ x8.toNatClampNeg then none else
    g_X11_silence_367 a_M_now x1 x2 x3 k44 k52 x4 x5 x6 ((a_M_hasB (x8.toNatClampNeg)) - (a_M_now 9)) a_M_refused a_M_talks a_M_hasB (upd a_M_hasA (t1.toNatClampNeg) t2)
  ) else (
    if x9 < 0 ∨ 861 ≤ x9.toNatClampNeg then none else
    if x7 = 0 then (
      g_X11_silence_348 a_M_now x1 x2 x3 k44 k52 x4 x5 x6 (a_M_hasB (x9.toNatClampNeg)) (a_M_now 12) a_M_refused a_M_talks a_M_hasB (upd a_M_hasA (t1.toNatClampNeg) t2)
    ) else (
      g_X11_silence_348 a_M_now x1 x2 x3 k44 k52 x4 x5 x6 (a_M_hasB (x9.toNatClampNeg)) 0 a_M_refused a_M_talks a_M_hasB (upd a_M_hasA (t1.toNatClampNeg) t2)
    )
  )
def g_X11_silence_289 (a_M_now : Nat → Int32) (x1 : Int32) (x2 : Int32) (x3 : Int32) (k44 : Int32 → (Nat → Int32) → (Nat → Int32) → (Nat → Int32) → (Nat → Int32) → Option (Int32 × (Nat → Int32) × (Nat → Int32) × (Nat → Int32) × (Nat → Int32))) (k52 : Int32 → Int32 → (Nat → Int32) → (Nat → Int32) → (Nat → Int32) → (Nat → Int32) → Option (Int32 × (Nat → Int32) × (Nat → Int32) × (Nat → Int32) × (Nat → Int32))) (x4 : Int32) (x5 : Int32) (x6 : Int32) (x7 : Int32) (x8 : Int32) (x9 : Int32) (t1 : Int32) (t2 : Int32) (t3 : Int32) (a_M_refused : Nat → Int32) (a_M_talks : Nat → Int32) (a_M_hasB : Nat → Int32) (a_M_hasA : Nat → Int32) : Option (Int32 × (Nat → Int32) × (Nat → Int32) × (Nat → Int32) × (Nat → Int32)) :=
  g_X11_silence_308 a_M_now x1 x2 x3 k44 k52 x4 x5 x6 x7 x8 x9 t1 (t2 - t3) a_M_refused a_M_talks a_M_hasB a_M_hasA
def g_X11_silence_249 (a_M_now : Nat → Int32) (x1 : Int32) (x2 : Int32) (x3 : Int32) (k44 : Int32 → (Nat → Int32) → (Nat → Int32) → (Nat → Int32) → (Nat → Int32) → Option (Int32 × (Nat → Int32) × (Nat → Int32) × (Nat → Int32) × (Nat → Int32))) (k52 : Int32 → Int32 → (Nat → Int32) → (Nat → Int32) → (Nat → Int32) → (Nat → Int32) → Option (Int32 × (Nat → Int32) × (Nat → Int32) × (Nat → Int32) × (Nat → Int32))) (x4 : Int32) (x5 : Int32) (x6 : Int32) (x7 : Int32) (x8 : Int32) (x9 : Int32) (t1 : Int32) (t2 : Int32) (a_M_refused : Nat → Int32) (a_M_talks : Nat → Int32) (a_M_hasB : Nat → Int32) (a_M_hasA : Nat → Int32) : Option (Int32 × (Nat → Int32) × (Nat → Int32) × (Nat → Int32) × (Nat → Int32)) :=
  if t1 < 0 ∨ 861 ≤ t1.toNatClampNeg then none else
  if x6 < 0 ∨ 861 ≤ x6.toNatClampNeg then none else
  if ((upd a_M_talks (t1.toNatClampNeg) (vp_nar .boolean t2)) (x6.toNatClampNeg)) = 0 then (
    if x8 < 0 ∨ 861 ≤ x8.toNatClampNeg then none else
    g_X11_silence_308 a_M_now x1 x2 x3 k44 k52 x4 x5 x6 x7 x8 x9 x6 ((a_M_hasA (x8.toNatClampNeg)) - (a_M_now 8)) a_M_refused (upd a_M_talks (t1.toNatClampNeg) (vp_nar .boolean t2)) a_M_hasB a_M_hasA
  ) else (
    if x9 < 0 ∨ 861 ≤ x9.toNatClampNeg then none else
    if x7 = 0 then (
      g_X11_silence_289 a_M_now x1 x2 x3 k44 k52 x4 x5 x6 x7 x8 x9 x6 (a_M_hasA (x9.toNatClampNeg)) 0 a_M_refused (upd a_M_talks (t1.toNatClampNeg) (vp_nar .boolean t2)) a_M_hasB a_M_hasA
    ) else (
      g_X11_silence_289 a_M_now x1 x2 x3 k44 k52 x4 x5 x6 x7 x8 x9 x6 (a_M_hasA (x9.toNatClampNeg)) (a_M_now 12) a_M_refused (upd a_M_talks (t1.toNatClampNeg) (vp_nar .boolean t2)) a_M_hasB a_M_hasA
    )
  )
def g_X11_silence_221 (a_M_now : Nat → Int32) (x1 : Int32) (x2 : Int32) (x3 : Int32) (k44 : Int32 → (Nat → Int32) → (Nat → Int32) → (Nat → Int32) → (Nat → Int32) → Option (Int32 × (Nat → Int32) × (Nat → Int32) × (Nat → Int32) × (Nat → Int32))) (k52 : Int32 → Int32 → (Nat → Int32) → (Nat → Int32) → (Nat → Int32) → (Nat → Int32) → Option (Int32 × (Nat → Int32) × (Nat → Int32) × (Nat → Int32) × (Nat → Int32))) (x4 : Int32) (x5 : Int32) (x6 : Int32) (x7 : Int32) (x8 : Int32) (x9 : Int32) (x10 : Int32) (t0 : Int32) (a_M_refused : Nat → Int32) (a_M_talks : Nat → Int32) (a_M_hasB : Nat → Int32) (a_M_hasA : Nat → Int32) : Option (Int32 × (Nat → Int32) × (Nat → Int32) × (Nat → Int32) × (Nat → Int32)) :=
  if (t0 - (a_M_now 12)) ≤ x10 then (
    g_X11_silence_249 a_M_now x1 x2 x3 k44 k52 x4 x5 x6 x7 x8 x9 x6 0 a_M_refused a_M_talks a_M_hasB a_M_hasA
  ) else (
    g_X11_silence_249 a_M_now x1 x2 x3 k44 k52 x4 x5 x6 x7 x8 x9 x6 1 a_M_refused a_M_talks a_M_hasB a_M_hasA
  )
def g_X11_silence_197 (a_M_now : Nat → Int32) (x1 : Int32) (x2 : Int32) (x3 : Int32) (k44 : Int32 → (Nat → Int32) → (Nat → Int32) → (Nat → Int32) → (Nat → Int32) → Option (Int32 × (Nat → Int32) × (Nat → Int32) × (Nat → Int32) × (Nat → Int32))) (k52 : Int32 → Int32 → (Nat → Int32) → (Nat → Int32) → (Nat → Int32) → (Nat → Int32) → Option (Int32 × (Nat → Int32) × (Nat → Int32) × (Nat → Int32) × (Nat → Int32))) (x4 : Int32) (x5 : Int32) (x6 : Int32) (x7 : Int32) (x8 : Int32) (x9 : Int32) (t0 : Int32) (a_M_refused : Nat → Int32) (a_M_talks : Nat → Int32) (a_M_hasB : Nat → Int32) (a_M_hasA : Nat → Int32) : Option (Int32 × (Nat → Int32) × (Nat → Int32) × (Nat → Int32) × (Nat → Int32)) :=
  if x7 = 0 then (
    if x9 < 0 ∨ 861 ≤ x9.toNatClampNeg then none else
    g_X11_silence_221 a_M_now x1 x2 x3 k44 k52 x4 x5 x6 x7 x8 x9 t0 (a_M_hasB (x9.toNatClampNeg)) a_M_refused a_M_talks a_M_hasB a_M_hasA
  ) else (
    if x9 < 0 ∨ 861 ≤ x9.toNatClampNeg then none else
    g_X11_silence_221 a_M_now x1 x2 x3 k44 k52 x4 x5 x6 x7 x8 x9 t0 (a_M_hasA (x9.toNatClampNeg)) a_M_refused a_M_talks a_M_hasB a_M_hasA
  )
def g_X11_silence_143 (a_M_now : Nat → Int32) (x1 : Int32) (x2 : Int32) (x3 : Int32) (k44 : Int32 → (Nat → Int32) → (Nat → Int32) → (Nat → Int32) → (Nat → Int32) → Option (Int32 × (Nat → Int32) × (Nat → Int32) × (Nat → Int32) × (Nat → Int32))) (k52 : Int32 → Int32 → (Nat → Int32) → (Nat → Int32) → (Nat → Int32) → (Nat → Int32) → Option (Int32 × (Nat → Int32) × (Nat → Int32) × (Nat → Int32) × (Nat → Int32))) (x4 : Int32) (x5 : Int32) (x6 : Int32) (t0 : Int32) (a_M_refused : Nat → Int32) (a_M_talks : Nat → Int32) (a_M_hasB : Nat → Int32) (a_M_hasA : Nat → Int32) : Option (Int32 × (Nat → Int32) × (Nat → Int32) × (Nat → Int32) × (Nat → Int32)) :=
  if t0 = 0 then (
    if (x6 + 21) < 0 ∨ 861 ≤ (x6 + 21).toNatClampNeg then none else
    g_X11_silence_197 a_M_now x1 x2 x3 k44 k52 x4 x5 x6 t0 (x6 + 21) (x6 + 22) ((a_M_hasB ((x6 + 21).toNatClampNeg)) - (a_M_now 9)) a_M_refused a_M_talks a_M_hasB a_M_hasA
  ) else (
    if (x6 + 21) < 0 ∨ 861 ≤ (x6 + 21).toNatClampNeg then none else
    g_X11_silence_197 a_M_now x1 x2 x3 k44 k52 x4 x5 x6 t0 (x6 + 21) (x6 + 22) ((a_M_hasA ((x6 + 21).toNatClampNeg)) - (a_M_now 8)) a_M_refused a_M_talks a_M_hasB a_M_hasA
  )
def g_X11_silence_115 (a_M_now : Nat → Int32) (x1 : Int32) (x2 : Int32) (x3 : Int32) (k44 : Int32 → (Nat → Int32) → (Nat → Int32) → (Nat → Int32) → (Nat → Int32) → Option (Int32 × (Nat → Int32) × (Nat → Int32) × (Nat → Int32) × (Nat → Int32))) (k52 : Int32 → Int32 → (Nat → Int32) → (Nat → Int32) → (Nat → Int32) → (Nat → Int32) → Option (Int32 × (Nat → Int32) × (Nat → Int32) × (Nat → Int32) × (Nat → Int32))) (x4 : Int32) (x5 : Int32) (x6 : Int32) (t1 : Int32) (t2 : Int32) (a_M_refused : Nat → Int32) (a_M_talks : Nat → Int32) (a_M_hasB : Nat → Int32) (a_M_hasA : Nat → Int32) : Option (Int32 × (Nat → Int32) × (Nat → Int32) × (Nat → Int32) × (Nat → Int32)) :=
  if t1 < 0 ∨ 861 ≤ t1.toNatClampNeg then none else
  if x5 = x2 then (
    g_X11_silence_368 a_M_now x1 x2 x3 k44 k52 x4 x5 a_M_refused a_M_talks (upd a_M_hasB (t1.toNatClampNeg) t2) a_M_hasA
  ) else (
    if x4 = x1 then (
      g_X11_silence_368 a_M_now x1 x2 x3 k44 k52 x4 x5 a_M_refused a_M_talks (upd a_M_hasB (t1.toNatClampNeg) t2) a_M_hasA
    ) else (
      if (x4 - x4 / 2 * 2) = 0 then (
        g_X11_silence_143 a_M_now x1 x2 x3 k44 k52 x4 x5 x6 1 a_M_refused a_M_talks (upd a_M_hasB (t1.toNatClampNeg) t2) a_M_hasA
      ) else (
        g_X11_silence_143 a_M_now x1 x2 x3 k44 k52 x4 x5 x6 0 a_M_refused a_M_talks (upd a_M_hasB (t1.toNatClampNeg) t2) a_M_hasA
      )
    )
  )
def g_X11_silence_91 (a_M_now : Nat → Int32) (x1 : Int32) (x2 : Int32) (x3 : Int32) (k44 : Int32 → (Nat → Int32) → (Nat → Int32) → (Nat → Int32) → (Nat → Int32) → Option (Int32 × (Nat → Int32) × (Nat → Int32) × (Nat → Int32) × (Nat → Int32))) (k52 : Int32 → Int32 → (Nat → Int32) → (Nat → Int32) → (Nat → Int32) → (Nat → Int32) → Option (Int32 × (Nat → Int32) × (Nat → Int32) × (Nat → Int32) × (Nat → Int32))) (x4 : Int32) (x5 : Int32) (x6 : Int32) (t1 : Int32) (t2 : Int32) (a_M_refused : Nat → Int32) (a_M_talks : Nat → Int32) (a_M_hasB : Nat → Int32) (a_M_hasA : Nat → Int32) : Option (Int32 × (Nat → Int32) × (Nat → Int32) × (Nat → Int32) × (Nat → Int32)) :=
  if t1 < 0 ∨ 861 ≤ t1.toNatClampNeg then none else
  if x5 = x2 then (
    g_X11_silence_115 a_M_now x1 x2 x3 k44 k52 x4 x5 x6 x6 (a_M_now 11) a_M_refused a_M_talks a_M_hasB (upd a_M_hasA (t1.toNatClampNeg) t2)
  ) else (
    g_X11_silence_115 a_M_now x1 x2 x3 k44 k52 x4 x5 x6 x6 0 a_M_refused a_M_talks a_M_hasB (upd a_M_hasA (t1.toNatClampNeg) t2)
  )
def g_X11_silence_52b (a_M_now : Nat → Int32) (x1 : Int32) (x2 : Int32) (x3 : Int32) (k44 : Int32 → (Nat → Int32) → (Nat → Int32) → (Nat → Int32) → (Nat → Int32) → Option (Int32 × (Nat → Int32) × (Nat → Int32) × (Nat → Int32) × (Nat → Int32))) (k52 : Int32 → Int32 → (Nat → Int32) → (Nat → Int32) → (Nat → Int32) → (Nat → Int32) → Option (Int32 × (Nat → Int32) × (Nat → Int32) × (Nat → Int32) × (Nat → Int32))) (x4 : Int32) (x5 : Int32) (a_M_refused : Nat → Int32) (a_M_talks : Nat → Int32) (a_M_hasB : Nat → Int32) (a_M_hasA : Nat → Int32) : Option (Int32 × (Nat → Int32) × (Nat → Int32) × (Nat → Int32) × (Nat → Int32)) :=
  if x2 < x5 then (
    k44 (x4 + (-1)) a_M_refused a_M_talks a_M_hasB a_M_hasA
  ) else (
    if x5 = x2 then (
      g_X11_silence_91 a_M_now x1 x2 x3 k44 k52 x4 x5 ((21 * x4) + x5) ((21 * x4) + x5) (a_M_now 10) a_M_refused a_M_talks a_M_hasB a_M_hasA
    ) else (
      g_X11_silence_91 a_M_now x1 x2 x3 k44 k52 x4 x5 ((21 * x4) + x5) ((21 * x4) + x5) 0 a_M_refused a_M_talks a_M_hasB a_M_hasA
    )
  )
def g_X11_silence_52 (a_M_now : Nat → Int32) (x1 : Int32) (x2 : Int32) (x3 : Int32) (k44 : Int32 → (Nat → Int32) → (Nat → Int32) → (Nat → Int32) → (Nat → Int32) → Option (Int32 × (Nat → Int32) × (Nat → Int32) × (Nat → Int32) × (Nat → Int32))) : Nat → Int32 → Int32 → (Nat → Int32) → (Nat → Int32) → (Nat → Int32) → (Nat → Int32) → Option (Int32 × (Nat → Int32) × (Nat → Int32) × (Nat → Int32) × (Nat → Int32))
  | 0, _, _, _, _, _, _ => none
  | n + 1, x4, x5, a_M_refused, a_M_talks, a_M_hasB, a_M_hasA => g_X11_silence_52b a_M_now x1 x2 x3 k44 (g_X11_silence_52 a_M_now x1 x2 x3 k44 n) x4 x5 a_M_refused a_M_talks a_M_hasB a_M_hasA
def g_X11_silence_44b (a_M_now : Nat → Int32) (x1 : Int32) (x2 : Int32) (x3 : Int32) (k44 : Int32 → (Nat → Int32) → (Nat → Int32) → (Nat → Int32) → (Nat → Int32) → Option (Int32 × (Nat → Int32) × (Nat → Int32) × (Nat → Int32) × (Nat → Int32))) (x4 : Int32) (a_M_refused : Nat → Int32) (a_M_talks : Nat → Int32) (a_M_hasB : Nat → Int32) (a_M_hasA : Nat → Int32) : Option (Int32 × (Nat → Int32) × (Nat → Int32) × (Nat → Int32) × (Nat → Int32)) :=
  if x4 < 0 then (
    if 2 ≤ x3 then (
      g_X11_silence_414 a_M_now x1 x2 x3 zF (-1) 0 0 a_M_refused a_M_talks a_M_hasB a_M_hasA
    ) else (
      if x3 = 0 then (
        some (a_M_hasA 0, a_M_refused, a_M_talks, a_M_hasB, a_M_hasA)
      ) else (
        some (a_M_hasB 0, a_M_refused, a_M_talks, a_M_hasB, a_M_hasA)
      )
    )
  ) else (
    g_X11_silence_52 a_M_now x1 x2 x3 k44 zF x4 0 a_M_refused a_M_talks a_M_hasB a_M_hasA
  )
def g_X11_silence_44 (a_M_now : Nat → Int32) (x1 : Int32) (x2 : Int32) (x3 : Int32) : Nat → Int32 → (Nat → Int32) → (Nat → Int32) → (Nat → Int32) → (Nat → Int32) → Option (Int32 × (Nat → Int32) × (Nat → Int32) × (Nat → Int32) × (Nat → Int32))
  | 0, _, _, _, _, _ => none
  | n + 1, x4, a_M_refused, a_M_talks, a_M_hasB, a_M_hasA => g_X11_silence_44b a_M_now x1 x2 x3 (g_X11_silence_44 a_M_now x1 x2 x3 n) x4 a_M_refused a_M_talks a_M_hasB a_M_hasA
def g_X11_silence (a_M_now : Nat → Int32) (x1 : Int32) (x2 : Int32) (x3 : Int32) (a_M_refused : Nat → Int32) (a_M_talks : Nat → Int32) (a_M_hasB : Nat → Int32) (a_M_hasA : Nat → Int32) : Option (Int32 × (Nat → Int32) × (Nat → Int32) × (Nat → Int32) × (Nat → Int32)) :=
  (g_X11_in x1.toInt64 (0 : Int64) (40 : Int64)).bind fun v1 =>
  if v1 = 0 then (
    g_X11_silence_36 a_M_now x1 x2 x3 a_M_refused a_M_talks a_M_hasB a_M_hasA
  ) else (
    (g_X11_in x2.toInt64 (1 : Int64) (20 : Int64)).bind fun v5 =>
    if v5 = 0 then (
      g_X11_silence_36 a_M_now x1 x2 x3 a_M_refused a_M_talks a_M_hasB a_M_hasA
    ) else (
      (g_X11_in x3.toInt64 (0 : Int64) (3 : Int64)).bind fun v7 =>
      if v7 = 0 then (
        g_X11_silence_36 a_M_now x1 x2 x3 a_M_refused a_M_talks a_M_hasB a_M_hasA
      ) else (
        g_X11_silence_44 a_M_now x1 x2 x3 zF x1 a_M_refused a_M_talks a_M_hasB a_M_hasA
      )
    )
  )
theorem hd_X11_silence : yX11_silence.cls = RX11 ∧ yX11_silence.cls ≠ "java/lang/invoke/MethodHandle" ∧ yX11_silence.cls ≠ "java/lang/invoke/VarHandle" ∧ (parseMethodDescriptor yX11_silence.desc).map (fun d => d.parameters.length) = some 3 := by decide +kernel
set_option maxHeartbeats 4000000 in
set_option maxRecDepth 100000 in
theorem c_X11_silence (l : Launch) (D : va_G) (cI cJ cZ cA : ClassId) (ga : Nat → Nat) (q_M q_M_refused q_M_talks q_M_hasB q_M_hasA q_M_now : Nat) (u_M_images : Value) (u_M_kept : Value) (u_M_text : Value) (u_M_size : Value) (u_M_sign : Value) (u_M_manyAbove : Value) (u_M_manyBelow : Value) (u_M_above : Value) (u_M_below : Value) (u_M_at : Value) (u_M_begin : Value) (u_M_kind : Value) (u_M_value : Value) (u_M_read : Value) (u_M_acts : Value) (u_M_act : Value) (u_M_waits : Value) (u_M_wait : Value) (u_M_held : Value) (u_M_place : Value) (u_M_heap : Value) (u_M_clocks : Value) (u_M_counts : Value) (u_M_talking : Value) (u_M_most : Value) (u_M_big : Value) (a_M_refused : Nat → Int32) (a_M_talks : Nat → Int32) (a_M_hasB : Nat → Int32) (a_M_hasA : Nat → Int32) (a_M_now : Nat → Int32) (x1 : Int32) (x2 : Int32) (x3 : Int32) (o : Int32 × (Nat → Int32) × (Nat → Int32) × (Nat → Int32) × (Nat → Int32)) (hg : g_X11_silence a_M_now x1 x2 x3 a_M_refused a_M_talks a_M_hasB a_M_hasA = some o) : zM l yX11_silence (Cond.code yX11_silence cX11_silence 12 (some .int) :: wsL_law) rm_X11_silence D (zTy cI cJ cZ cA) ga [.ref q_M, .int x1, .int x2, .int x3] (ws_X11_silence cI cJ cZ cA q_M q_M_refused q_M_talks q_M_hasB q_M_hasA q_M_now u_M_images u_M_kept u_M_text u_M_size u_M_sign u_M_manyAbove u_M_manyBelow u_M_above u_M_below u_M_at u_M_begin u_M_kind u_M_value u_M_read u_M_acts u_M_act u_M_waits u_M_wait u_M_held u_M_place u_M_heap u_M_clocks u_M_counts u_M_talking u_M_most u_M_big a_M_refused a_M_talks a_M_hasB a_M_hasA a_M_now) (ws_X11_silence cI cJ cZ cA q_M q_M_refused q_M_talks q_M_hasB q_M_hasA q_M_now u_M_images u_M_kept u_M_text u_M_size u_M_sign u_M_manyAbove u_M_manyBelow u_M_above u_M_below u_M_at u_M_begin u_M_kind u_M_value u_M_read u_M_acts u_M_act u_M_waits u_M_wait u_M_held u_M_place u_M_heap u_M_clocks u_M_counts u_M_talking u_M_most u_M_big o.2.1 o.2.2.1 o.2.2.2.1 o.2.2.2.2 a_M_now) (some (.int o.1)) := by
  refine zenterI (own := RX11) (by decide) rfl rfl (Nat.le_of_ble_eq_true rfl) ?_
  intro p e s m args below meth c A ls Q S hA hK hG hl hP hD hS hret0
  have hx := S.1
  have hb := S.2.1
  have ht : ∀ w, w ∈ wsL_law → w.before args s = true := fun w h => S.2.2.2.2 w (List.mem_cons_of_mem _ h)
  have hret : ∀ (r9 : Int32) (a_M_refused : Nat → Int32) (a_M_talks : Nat → Int32) (a_M_hasB : Nat → Int32) (a_M_hasA : Nat → Int32), (some (r9, a_M_refused, a_M_talks, a_M_hasB, a_M_hasA) : Option (Int32 × (Nat → Int32) × (Nat → Int32) × (Nat → Int32) × (Nat → Int32))) = some o → ∀ (H : Heap) (locs : List Loc) (pc : Nat) (ls : Array Slot), va_P D vwCl (ws_X11_silence cI cJ cZ cA q_M q_M_refused q_M_talks q_M_hasB q_M_hasA q_M_now u_M_images u_M_kept u_M_text u_M_size u_M_sign u_M_manyAbove u_M_manyBelow u_M_above u_M_below u_M_at u_M_begin u_M_kind u_M_value u_M_read u_M_acts u_M_act u_M_waits u_M_wait u_M_held u_M_place u_M_heap u_M_clocks u_M_counts u_M_talking u_M_most u_M_big a_M_refused a_M_talks a_M_hasB a_M_hasA a_M_now) H → va_S A s.heap H locs → decode cX11_silence pc = .ok (.ireturn, 1) → W p l e rm_X11_silence s m args below meth c H locs 0 0 Q (F0 m pc ls [.int r9]) := by
    intro r9 a_M_refused a_M_talks a_M_hasB a_M_hasA he; cases he; exact hret0
  have hl : lv_has ls 12 [(0, .ref q_M), (1, .int x1), (2, .int x2), (3, .int x3)] := hl
  have B36 : ∀ (a_M_refused : Nat → Int32) (a_M_talks : Nat → Int32) (a_M_hasB : Nat → Int32) (a_M_hasA : Nat → Int32) (H : Heap) (locs : List Loc) (ls : Array Slot) (hl : lv_has ls 12 [(0, .ref q_M)]) (hP : va_P D vwCl (ws_X11_silence cI cJ cZ cA q_M q_M_refused q_M_talks q_M_hasB q_M_hasA q_M_now u_M_images u_M_kept u_M_text u_M_size u_M_sign u_M_manyAbove u_M_manyBelow u_M_above u_M_below u_M_at u_M_begin u_M_kind u_M_value u_M_read u_M_acts u_M_act u_M_waits u_M_wait u_M_held u_M_place u_M_heap u_M_clocks u_M_counts u_M_talking u_M_most u_M_big a_M_refused a_M_talks a_M_hasB a_M_hasA a_M_now) H) (hD : va_D A (ws_X11_silence cI cJ cZ cA q_M q_M_refused q_M_talks q_M_hasB q_M_hasA q_M_now u_M_images u_M_kept u_M_text u_M_size u_M_sign u_M_manyAbove u_M_manyBelow u_M_above u_M_below u_M_at u_M_begin u_M_kind u_M_value u_M_read u_M_acts u_M_act u_M_waits u_M_wait u_M_held u_M_place u_M_heap u_M_clocks u_M_counts u_M_talking u_M_most u_M_big a_M_refused a_M_talks a_M_hasB a_M_hasA a_M_now)) (hS : va_S A s.heap H locs), g_X11_silence_36 a_M_now x1 x2 x3 a_M_refused a_M_talks a_M_hasB a_M_hasA = some o → W p l e rm_X11_silence s m args below meth c H locs 0 0 Q (F0 m 36 ls []) := by
    intro  a_M_refused a_M_talks a_M_hasB a_M_hasA H locs ls hl hP hD hS hg
    refine lv_aload_n hx hb dX11_silence_36 rfl (lv_at hl 0 rfl) ?_
    obtain ⟨v3, hc4, hg⟩ := zbd hg
    refine zcallV (rest := []) S (c_X11_worse l D cI cJ cZ cA ga q_M q_M_refused (.ref q_M_now) u_M_images u_M_kept u_M_text u_M_size u_M_sign u_M_manyAbove u_M_manyBelow u_M_above u_M_below u_M_at u_M_begin u_M_kind u_M_value u_M_read u_M_acts u_M_act u_M_waits u_M_wait u_M_held u_M_place u_M_heap u_M_clocks u_M_counts u_M_talking u_M_most (.ref q_M_hasA) (.ref q_M_hasB) (.ref q_M_talks) u_M_big a_M_refused v3 hc4) (zgV zw_769 zw_770 zw_771 zw_5 zw_772) rfl hd_X11_worse ⟨rfl, rfl⟩ ⟨Nat.le_of_ble_eq_true rfl, Nat.le_of_ble_eq_true rfl⟩ 0 11 rfl rfl rfl hl.1 rfl (Nat.le_of_ble_eq_true rfl) dX11_silence_37 hP hD hS hA hK hG (isC := [0, 1]) rfl (by decide +kernel) rfl ⟨Nat.zero_le _, Nat.zero_le _⟩ (pl := [some 0, some 1, none, none, none, none]) (nw := 6) rfl (by decide +kernel) (w2 := (ws_X11_silence cI cJ cZ cA q_M q_M_refused q_M_talks q_M_hasB q_M_hasA q_M_now u_M_images u_M_kept u_M_text u_M_size u_M_sign u_M_manyAbove u_M_manyBelow u_M_above u_M_below u_M_at u_M_begin u_M_kind u_M_value u_M_read u_M_acts u_M_act u_M_waits u_M_wait u_M_held u_M_place u_M_heap u_M_clocks u_M_counts u_M_talking u_M_most u_M_big v3.2 a_M_talks a_M_hasB a_M_hasA a_M_now)) rfl (st1 := [.int v3.1]) rfl (fun H locs hP hD hS => ?_)
    exact hret v3.1 v3.2 a_M_talks a_M_hasB a_M_hasA hg _ _ _ _ hP hS dX11_silence_40
  have B466 : ∀ (x4 : Int32) (x5 : Int32) (a_M_refused : Nat → Int32) (a_M_talks : Nat → Int32) (a_M_hasB : Nat → Int32) (a_M_hasA : Nat → Int32) (H : Heap) (locs : List Loc) (ls : Array Slot) (hl : lv_has ls 12 [(3, .int x3), (4, .int x4), (5, .int x5)]) (hP : va_P D vwCl (ws_X11_silence cI cJ cZ cA q_M q_M_refused q_M_talks q_M_hasB q_M_hasA q_M_now u_M_images u_M_kept u_M_text u_M_size u_M_sign u_M_manyAbove u_M_manyBelow u_M_above u_M_below u_M_at u_M_begin u_M_kind u_M_value u_M_read u_M_acts u_M_act u_M_waits u_M_wait u_M_held u_M_place u_M_heap u_M_clocks u_M_counts u_M_talking u_M_most u_M_big a_M_refused a_M_talks a_M_hasB a_M_hasA a_M_now) H) (hD : va_D A (ws_X11_silence cI cJ cZ cA q_M q_M_refused q_M_talks q_M_hasB q_M_hasA q_M_now u_M_images u_M_kept u_M_text u_M_size u_M_sign u_M_manyAbove u_M_manyBelow u_M_above u_M_below u_M_at u_M_begin u_M_kind u_M_value u_M_read u_M_acts u_M_act u_M_waits u_M_wait u_M_held u_M_place u_M_heap u_M_clocks u_M_counts u_M_talking u_M_most u_M_big a_M_refused a_M_talks a_M_hasB a_M_hasA a_M_now)) (hS : va_S A s.heap H locs), g_X11_silence_466 a_M_now x1 x2 x3 x4 x5 a_M_refused a_M_talks a_M_hasB a_M_hasA = some o → W p l e rm_X11_silence s m args below meth c H locs 0 0 Q (F0 m 466 ls []) := by
    intro  x4 x5 a_M_refused a_M_talks a_M_hasB a_M_hasA H locs ls hl hP hD hS hg
    refine lv_iload_n hx hb dX11_silence_466 rfl (lv_at hl 0 rfl) ?_
    refine lv_iconst (v := 2) hx hb dX11_silence_467 (by decide) ?_
    refine lv_icmp_ne (tgt := 476) hx hb dX11_silence_468 (by decide) (fun h468 => ?_) (fun h468 => ?_)
    · have hg := zn hg h468
      refine lv_iload hx hb dX11_silence_476 (lv_at hl 2 rfl) ?_
      exact hret x5 a_M_refused a_M_talks a_M_hasB a_M_hasA hg _ _ _ _ hP hS dX11_silence_478
    · have hg := zp hg h468
      refine lv_iload hx hb dX11_silence_471 (lv_at hl 1 rfl) ?_
      refine lv_goto (tgt := 478) hx hb dX11_silence_473 (by decide) ?_
      exact hret x4 a_M_refused a_M_talks a_M_hasB a_M_hasA hg _ _ _ _ hP hS dX11_silence_478
  have B460 : ∀ (k414 : Int32 → Int32 → Int32 → (Nat → Int32) → (Nat → Int32) → (Nat → Int32) → (Nat → Int32) → Option (Int32 × (Nat → Int32) × (Nat → Int32) × (Nat → Int32) × (Nat → Int32))) (hk414 : ∀ (x4 : Int32) (x5 : Int32) (x6 : Int32) (a_M_refused : Nat → Int32) (a_M_talks : Nat → Int32) (a_M_hasB : Nat → Int32) (a_M_hasA : Nat → Int32) (H : Heap) (locs : List Loc) (ls : Array Slot) (hl : lv_has ls 12 [(0, .ref q_M), (1, .int x1), (2, .int x2), (3, .int x3), (4, .int x4), (5, .int x5), (6, .int x6)]) (hP : va_P D vwCl (ws_X11_silence cI cJ cZ cA q_M q_M_refused q_M_talks q_M_hasB q_M_hasA q_M_now u_M_images u_M_kept u_M_text u_M_size u_M_sign u_M_manyAbove u_M_manyBelow u_M_above u_M_below u_M_at u_M_begin u_M_kind u_M_value u_M_read u_M_acts u_M_act u_M_waits u_M_wait u_M_held u_M_place u_M_heap u_M_clocks u_M_counts u_M_talking u_M_most u_M_big a_M_refused a_M_talks a_M_hasB a_M_hasA a_M_now) H) (hD : va_D A (ws_X11_silence cI cJ cZ cA q_M q_M_refused q_M_talks q_M_hasB q_M_hasA q_M_now u_M_images u_M_kept u_M_text u_M_size u_M_sign u_M_manyAbove u_M_manyBelow u_M_above u_M_below u_M_at u_M_begin u_M_kind u_M_value u_M_read u_M_acts u_M_act u_M_waits u_M_wait u_M_held u_M_place u_M_heap u_M_clocks u_M_counts u_M_talking u_M_most u_M_big a_M_refused a_M_talks a_M_hasB a_M_hasA a_M_now)) (hS : va_S A s.heap H locs), k414 x4 x5 x6 a_M_refused a_M_talks a_M_hasB a_M_hasA = some o → W p l e rm_X11_silence s m args below meth c H locs 0 0 Q (F0 m 414 ls [])) (x4 : Int32) (x5 : Int32) (x6 : Int32) (a_M_refused : Nat → Int32) (a_M_talks : Nat → Int32) (a_M_hasB : Nat → Int32) (a_M_hasA : Nat → Int32) (H : Heap) (locs : List Loc) (ls : Array Slot) (hl : lv_has ls 12 [(0, .ref q_M), (1, .int x1), (2, .int x2), (3, .int x3), (4, .int x4), (5, .int x5), (6, .int x6)]) (hP : va_P D vwCl (ws_X11_silence cI cJ cZ cA q_M q_M_refused q_M_talks q_M_hasB q_M_hasA q_M_now u_M_images u_M_kept u_M_text u_M_size u_M_sign u_M_manyAbove u_M_manyBelow u_M_above u_M_below u_M_at u_M_begin u_M_kind u_M_value u_M_read u_M_acts u_M_act u_M_waits u_M_wait u_M_held u_M_place u_M_heap u_M_clocks u_M_counts u_M_talking u_M_most u_M_big a_M_refused a_M_talks a_M_hasB a_M_hasA a_M_now) H) (hD : va_D A (ws_X11_silence cI cJ cZ cA q_M q_M_refused q_M_talks q_M_hasB q_M_hasA q_M_now u_M_images u_M_kept u_M_text u_M_size u_M_sign u_M_manyAbove u_M_manyBelow u_M_above u_M_below u_M_at u_M_begin u_M_kind u_M_value u_M_read u_M_acts u_M_act u_M_waits u_M_wait u_M_held u_M_place u_M_heap u_M_clocks u_M_counts u_M_talking u_M_most u_M_big a_M_refused a_M_talks a_M_hasB a_M_hasA a_M_now)) (hS : va_S A s.heap H locs), g_X11_silence_460 a_M_now x1 x2 x3 k414 x4 x5 x6 a_M_refused a_M_talks a_M_hasB a_M_hasA = some o → W p l e rm_X11_silence s m args below meth c H locs 0 0 Q (F0 m 460 ls []) := by
    intro k414 hk414 x4 x5 x6 a_M_refused a_M_talks a_M_hasB a_M_hasA H locs ls hl hP hD hS hg
    refine lv_iinc (k := 6) (v := x6 + 1) (lv' := [(6, .int (x6 + 1)), (0, .ref q_M), (1, .int x1), (2, .int x2), (3, .int x3), (4, .int x4), (5, .int x5)]) hx hb dX11_silence_460 hl rfl (zinc (by decide)) (by decide) rfl (fun ls hl => ?_)
    refine lv_goto (tgt := 414) hx hb dX11_silence_463 (by decide) ?_
    exact hk414 x4 x5 (x6 + 1) a_M_refused a_M_talks a_M_hasB a_M_hasA _ _ _ (lv_sub hl [1, 2, 3, 4, 5, 6, 0] rfl) hP hD hS hg
  have B455 : ∀ (k414 : Int32 → Int32 → Int32 → (Nat → Int32) → (Nat → Int32) → (Nat → Int32) → (Nat → Int32) → Option (Int32 × (Nat → Int32) × (Nat → Int32) × (Nat → Int32) × (Nat → Int32))) (hk414 : ∀ (x4 : Int32) (x5 : Int32) (x6 : Int32) (a_M_refused : Nat → Int32) (a_M_talks : Nat → Int32) (a_M_hasB : Nat → Int32) (a_M_hasA : Nat → Int32) (H : Heap) (locs : List Loc) (ls : Array Slot) (hl : lv_has ls 12 [(0, .ref q_M), (1, .int x1), (2, .int x2), (3, .int x3), (4, .int x4), (5, .int x5), (6, .int x6)]) (hP : va_P D vwCl (ws_X11_silence cI cJ cZ cA q_M q_M_refused q_M_talks q_M_hasB q_M_hasA q_M_now u_M_images u_M_kept u_M_text u_M_size u_M_sign u_M_manyAbove u_M_manyBelow u_M_above u_M_below u_M_at u_M_begin u_M_kind u_M_value u_M_read u_M_acts u_M_act u_M_waits u_M_wait u_M_held u_M_place u_M_heap u_M_clocks u_M_counts u_M_talking u_M_most u_M_big a_M_refused a_M_talks a_M_hasB a_M_hasA a_M_now) H) (hD : va_D A (ws_X11_silence cI cJ cZ cA q_M q_M_refused q_M_talks q_M_hasB q_M_hasA q_M_now u_M_images u_M_kept u_M_text u_M_size u_M_sign u_M_manyAbove u_M_manyBelow u_M_above u_M_below u_M_at u_M_begin u_M_kind u_M_value u_M_read u_M_acts u_M_act u_M_waits u_M_wait u_M_held u_M_place u_M_heap u_M_clocks u_M_counts u_M_talking u_M_most u_M_big a_M_refused a_M_talks a_M_hasB a_M_hasA a_M_now)) (hS : va_S A s.heap H locs), k414 x4 x5 x6 a_M_refused a_M_talks a_M_hasB a_M_hasA = some o → W p l e rm_X11_silence s m args below meth c H locs 0 0 Q (F0 m 414 ls [])) (x5 : Int32) (x6 : Int32) (t0 : Int32) (a_M_refused : Nat → Int32) (a_M_talks : Nat → Int32) (a_M_hasB : Nat → Int32) (a_M_hasA : Nat → Int32) (H : Heap) (locs : List Loc) (ls : Array Slot) (hl : lv_has ls 12 [(0, .ref q_M), (1, .int x1), (2, .int x2), (3, .int x3), (5, .int x5), (6, .int x6)]) (hP : va_P D vwCl (ws_X11_silence cI cJ cZ cA q_M q_M_refused q_M_talks q_M_hasB q_M_hasA q_M_now u_M_images u_M_kept u_M_text u_M_size u_M_sign u_M_manyAbove u_M_manyBelow u_M_above u_M_below u_M_at u_M_begin u_M_kind u_M_value u_M_read u_M_acts u_M_act u_M_waits u_M_wait u_M_held u_M_place u_M_heap u_M_clocks u_M_counts u_M_talking u_M_most u_M_big a_M_refused a_M_talks a_M_hasB a_M_hasA a_M_now) H) (hD : va_D A (ws_X11_silence cI cJ cZ cA q_M q_M_refused q_M_talks q_M_hasB q_M_hasA q_M_now u_M_images u_M_kept u_M_text u_M_size u_M_sign u_M_manyAbove u_M_manyBelow u_M_above u_M_below u_M_at u_M_begin u_M_kind u_M_value u_M_read u_M_acts u_M_act u_M_waits u_M_wait u_M_held u_M_place u_M_heap u_M_clocks u_M_counts u_M_talking u_M_most u_M_big a_M_refused a_M_talks a_M_hasB a_M_hasA a_M_now)) (hS : va_S A s.heap H locs), g_X11_silence_455 a_M_now x1 x2 x3 k414 x5 x6 t0 a_M_refused a_M_talks a_M_hasB a_M_hasA = some o → W p l e rm_X11_silence s m args below meth c H locs 0 0 Q (F0 m 455 ls [.int t0]) := by
    intro k414 hk414 x5 x6 t0 a_M_refused a_M_talks a_M_hasB a_M_hasA H locs ls hl hP hD hS hg
    refine lv_istore (lv' := [(4, .int t0), (0, .ref q_M), (1, .int x1), (2, .int x2), (3, .int x3), (5, .int x5), (6, .int x6)]) hx hb dX11_silence_455 hl (by decide) rfl (fun ls hl => ?_)
    refine lv_iinc (k := 5) (v := x5 + 1) (lv' := [(5, .int (x5 + 1)), (4, .int t0), (0, .ref q_M), (1, .int x1), (2, .int x2), (3, .int x3), (6, .int x6)]) hx hb dX11_silence_457 hl rfl (zinc (by decide)) (by decide) rfl (fun ls hl => ?_)
    exact B460 k414 hk414 t0 (x5 + 1) x6 a_M_refused a_M_talks a_M_hasB a_M_hasA _ _ _ (lv_sub hl [2, 3, 4, 5, 1, 0, 6] rfl) hP hD hS hg
  have B414 : ∀  (n : Nat) (x4 : Int32) (x5 : Int32) (x6 : Int32) (a_M_refused : Nat → Int32) (a_M_talks : Nat → Int32) (a_M_hasB : Nat → Int32) (a_M_hasA : Nat → Int32) (H : Heap) (locs : List Loc) (ls : Array Slot) (hl : lv_has ls 12 [(0, .ref q_M), (1, .int x1), (2, .int x2), (3, .int x3), (4, .int x4), (5, .int x5), (6, .int x6)]) (hP : va_P D vwCl (ws_X11_silence cI cJ cZ cA q_M q_M_refused q_M_talks q_M_hasB q_M_hasA q_M_now u_M_images u_M_kept u_M_text u_M_size u_M_sign u_M_manyAbove u_M_manyBelow u_M_above u_M_below u_M_at u_M_begin u_M_kind u_M_value u_M_read u_M_acts u_M_act u_M_waits u_M_wait u_M_held u_M_place u_M_heap u_M_clocks u_M_counts u_M_talking u_M_most u_M_big a_M_refused a_M_talks a_M_hasB a_M_hasA a_M_now) H) (hD : va_D A (ws_X11_silence cI cJ cZ cA q_M q_M_refused q_M_talks q_M_hasB q_M_hasA q_M_now u_M_images u_M_kept u_M_text u_M_size u_M_sign u_M_manyAbove u_M_manyBelow u_M_above u_M_below u_M_at u_M_begin u_M_kind u_M_value u_M_read u_M_acts u_M_act u_M_waits u_M_wait u_M_held u_M_place u_M_heap u_M_clocks u_M_counts u_M_talking u_M_most u_M_big a_M_refused a_M_talks a_M_hasB a_M_hasA a_M_now)) (hS : va_S A s.heap H locs), g_X11_silence_414 a_M_now x1 x2 x3 n x4 x5 x6 a_M_refused a_M_talks a_M_hasB a_M_hasA = some o → W p l e rm_X11_silence s m args below meth c H locs 0 0 Q (F0 m 414 ls []) := by
    intro  n
    induction n with
    | zero => intro x4 x5 x6 a_M_refused a_M_talks a_M_hasB a_M_hasA H locs ls hl hP hD hS hg; exact nomatch (show (none : Option (Int32 × (Nat → Int32) × (Nat → Int32) × (Nat → Int32) × (Nat → Int32))) = some o from hg)
    | succ n ih =>
      intro x4 x5 x6 a_M_refused a_M_talks a_M_hasB a_M_hasA H locs ls hl hP hD hS hg
      have hg : g_X11_silence_414b a_M_now x1 x2 x3 (g_X11_silence_414 a_M_now x1 x2 x3 n) x4 x5 x6 a_M_refused a_M_talks a_M_hasB a_M_hasA = some o := hg
      refine lv_iload hx hb dX11_silence_414 (lv_at hl 6 rfl) ?_
      refine lv_iload_n hx hb dX11_silence_416 rfl (lv_at hl 1 rfl) ?_
      refine lv_icmp_ge (tgt := 466) hx hb dX11_silence_417 (by decide) (fun h417 => ?_) (fun h417 => ?_)
      · have hg := zp hg h417
        exact B466 x4 x5 a_M_refused a_M_talks a_M_hasB a_M_hasA _ _ _ (lv_sub hl [3, 4, 5] rfl) hP hD hS hg
      · have hg := zn hg h417
        refine lv_iload hx hb dX11_silence_420 (lv_at hl 5 rfl) ?_
        refine lv_iload_n hx hb dX11_silence_422 rfl (lv_at hl 2 rfl) ?_
        refine lv_icmp_ge (tgt := 466) hx hb dX11_silence_423 (by decide) (fun h423 => ?_) (fun h423 => ?_)
        · have hg := zp hg h423
          exact B466 x4 x5 a_M_refused a_M_talks a_M_hasB a_M_hasA _ _ _ (lv_sub hl [3, 4, 5] rfl) hP hD hS hg
        · have hg := zn hg h423
          refine lv_aload_n hx hb dX11_silence_426 rfl (lv_at hl 0 rfl) ?_
          refine zget (C := RX11) (T := TX11) (N := 31) S hK hP 0 rfl rfl 29 (Nat.le_of_ble_eq_true rfl) zf_11 zw_168 rfl dX11_silence_427 ?_
          refine lv_bipush (v := 21) hx hb dX11_silence_430 (by decide) ?_
          refine lv_iload hx hb dX11_silence_432 (lv_at hl 6 rfl) ?_
          refine lv_imul hx hb dX11_silence_434 ?_
          refine lv_iload hx hb dX11_silence_435 (lv_at hl 5 rfl) ?_
          refine lv_iadd hx hb dX11_silence_437 ?_
          obtain ⟨h9, hg⟩ := zck hg
          refine zzald hx hb hK hP 2 2 rfl rfl (j := (((21 * x6) + x5).toNatClampNeg)) h9 rfl dX11_silence_438 ?_
          refine lv_if_eq (tgt := 460) hx hb dX11_silence_439 (by decide) (fun h439 => ?_) (fun h439 => ?_)
          · have hg := zp hg h439
            exact B460 (g_X11_silence_414 a_M_now x1 x2 x3 n) ih x4 x5 x6 a_M_refused a_M_talks a_M_hasB a_M_hasA _ _ _ hl hP hD hS hg
          · have hg := zn hg h439
            refine lv_iload hx hb dX11_silence_442 (lv_at hl 4 rfl) ?_
            refine lv_iconst (v := (-1)) hx hb dX11_silence_444 (by decide) ?_
            refine lv_icmp_ne (tgt := 453) hx hb dX11_silence_445 (by decide) (fun h445 => ?_) (fun h445 => ?_)
            · have hg := zn hg h445
              refine lv_iload hx hb dX11_silence_453 (lv_at hl 4 rfl) ?_
              exact B455 (g_X11_silence_414 a_M_now x1 x2 x3 n) ih x5 x6 x4 a_M_refused a_M_talks a_M_hasB a_M_hasA _ _ _ (lv_sub hl [0, 1, 2, 3, 5, 6] rfl) hP hD hS hg
            · have hg := zp hg h445
              refine lv_iload hx hb dX11_silence_448 (lv_at hl 6 rfl) ?_
              refine lv_goto (tgt := 455) hx hb dX11_silence_450 (by decide) ?_
              exact B455 (g_X11_silence_414 a_M_now x1 x2 x3 n) ih x5 x6 x6 a_M_refused a_M_talks a_M_hasB a_M_hasA _ _ _ (lv_sub hl [0, 1, 2, 3, 5, 6] rfl) hP hD hS hg
  have B368 : ∀ (k44 : Int32 → (Nat → Int32) → (Nat → Int32) → (Nat → Int32) → (Nat → Int32) → Option (Int32 × (Nat → Int32) × (Nat → Int32) × (Nat → Int32) × (Nat → Int32))) (hk44 : ∀ (x4 : Int32) (a_M_refused : Nat → Int32) (a_M_talks : Nat → Int32) (a_M_hasB : Nat → Int32) (a_M_hasA : Nat → Int32) (H : Heap) (locs : List Loc) (ls : Array Slot) (hl : lv_has ls 12 [(0, .ref q_M), (1, .int x1), (2, .int x2), (3, .int x3), (4, .int x4)]) (hP : va_P D vwCl (ws_X11_silence cI cJ cZ cA q_M q_M_refused q_M_talks q_M_hasB q_M_hasA q_M_now u_M_images u_M_kept u_M_text u_M_size u_M_sign u_M_manyAbove u_M_manyBelow u_M_above u_M_below u_M_at u_M_begin u_M_kind u_M_value u_M_read u_M_acts u_M_act u_M_waits u_M_wait u_M_held u_M_place u_M_heap u_M_clocks u_M_counts u_M_talking u_M_most u_M_big a_M_refused a_M_talks a_M_hasB a_M_hasA a_M_now) H) (hD : va_D A (ws_X11_silence cI cJ cZ cA q_M q_M_refused q_M_talks q_M_hasB q_M_hasA q_M_now u_M_images u_M_kept u_M_text u_M_size u_M_sign u_M_manyAbove u_M_manyBelow u_M_above u_M_below u_M_at u_M_begin u_M_kind u_M_value u_M_read u_M_acts u_M_act u_M_waits u_M_wait u_M_held u_M_place u_M_heap u_M_clocks u_M_counts u_M_talking u_M_most u_M_big a_M_refused a_M_talks a_M_hasB a_M_hasA a_M_now)) (hS : va_S A s.heap H locs), k44 x4 a_M_refused a_M_talks a_M_hasB a_M_hasA = some o → W p l e rm_X11_silence s m args below meth c H locs 0 0 Q (F0 m 44 ls [])) (k52 : Int32 → Int32 → (Nat → Int32) → (Nat → Int32) → (Nat → Int32) → (Nat → Int32) → Option (Int32 × (Nat → Int32) × (Nat → Int32) × (Nat → Int32) × (Nat → Int32))) (hk52 : ∀ (x4 : Int32) (x5 : Int32) (a_M_refused : Nat → Int32) (a_M_talks : Nat → Int32) (a_M_hasB : Nat → Int32) (a_M_hasA : Nat → Int32) (H : Heap) (locs : List Loc) (ls : Array Slot) (hl : lv_has ls 12 [(0, .ref q_M), (1, .int x1), (2, .int x2), (3, .int x3), (4, .int x4), (5, .int x5)]) (hP : va_P D vwCl (ws_X11_silence cI cJ cZ cA q_M q_M_refused q_M_talks q_M_hasB q_M_hasA q_M_now u_M_images u_M_kept u_M_text u_M_size u_M_sign u_M_manyAbove u_M_manyBelow u_M_above u_M_below u_M_at u_M_begin u_M_kind u_M_value u_M_read u_M_acts u_M_act u_M_waits u_M_wait u_M_held u_M_place u_M_heap u_M_clocks u_M_counts u_M_talking u_M_most u_M_big a_M_refused a_M_talks a_M_hasB a_M_hasA a_M_now) H) (hD : va_D A (ws_X11_silence cI cJ cZ cA q_M q_M_refused q_M_talks q_M_hasB q_M_hasA q_M_now u_M_images u_M_kept u_M_text u_M_size u_M_sign u_M_manyAbove u_M_manyBelow u_M_above u_M_below u_M_at u_M_begin u_M_kind u_M_value u_M_read u_M_acts u_M_act u_M_waits u_M_wait u_M_held u_M_place u_M_heap u_M_clocks u_M_counts u_M_talking u_M_most u_M_big a_M_refused a_M_talks a_M_hasB a_M_hasA a_M_now)) (hS : va_S A s.heap H locs), k52 x4 x5 a_M_refused a_M_talks a_M_hasB a_M_hasA = some o → W p l e rm_X11_silence s m args below meth c H locs 0 0 Q (F0 m 52 ls [])) (x4 : Int32) (x5 : Int32) (a_M_refused : Nat → Int32) (a_M_talks : Nat → Int32) (a_M_hasB : Nat → Int32) (a_M_hasA : Nat → Int32) (H : Heap) (locs : List Loc) (ls : Array Slot) (hl : lv_has ls 12 [(0, .ref q_M), (1, .int x1), (2, .int x2), (3, .int x3), (4, .int x4), (5, .int x5)]) (hP : va_P D vwCl (ws_X11_silence cI cJ cZ cA q_M q_M_refused q_M_talks q_M_hasB q_M_hasA q_M_now u_M_images u_M_kept u_M_text u_M_size u_M_sign u_M_manyAbove u_M_manyBelow u_M_above u_M_below u_M_at u_M_begin u_M_kind u_M_value u_M_read u_M_acts u_M_act u_M_waits u_M_wait u_M_held u_M_place u_M_heap u_M_clocks u_M_counts u_M_talking u_M_most u_M_big a_M_refused a_M_talks a_M_hasB a_M_hasA a_M_now) H) (hD : va_D A (ws_X11_silence cI cJ cZ cA q_M q_M_refused q_M_talks q_M_hasB q_M_hasA q_M_now u_M_images u_M_kept u_M_text u_M_size u_M_sign u_M_manyAbove u_M_manyBelow u_M_above u_M_below u_M_at u_M_begin u_M_kind u_M_value u_M_read u_M_acts u_M_act u_M_waits u_M_wait u_M_held u_M_place u_M_heap u_M_clocks u_M_counts u_M_talking u_M_most u_M_big a_M_refused a_M_talks a_M_hasB a_M_hasA a_M_now)) (hS : va_S A s.heap H locs), g_X11_silence_368 a_M_now x1 x2 x3 k44 k52 x4 x5 a_M_refused a_M_talks a_M_hasB a_M_hasA = some o → W p l e rm_X11_silence s m args below meth c H locs 0 0 Q (F0 m 368 ls []) := by
    intro k44 hk44 k52 hk52 x4 x5 a_M_refused a_M_talks a_M_hasB a_M_hasA H locs ls hl hP hD hS hg
    refine lv_iinc (k := 5) (v := x5 + 1) (lv' := [(5, .int (x5 + 1)), (0, .ref q_M), (1, .int x1), (2, .int x2), (3, .int x3), (4, .int x4)]) hx hb dX11_silence_368 hl rfl (zinc (by decide)) (by decide) rfl (fun ls hl => ?_)
    refine lv_goto (tgt := 52) hx hb dX11_silence_371 (by decide) ?_
    exact hk52 x4 (x5 + 1) a_M_refused a_M_talks a_M_hasB a_M_hasA _ _ _ (lv_sub hl [1, 2, 3, 4, 5, 0] rfl) hP hD hS hg
  have B367 : ∀ (k44 : Int32 → (Nat → Int32) → (Nat → Int32) → (Nat → Int32) → (Nat → Int32) → Option (Int32 × (Nat → Int32) × (Nat → Int32) × (Nat → Int32) × (Nat → Int32))) (hk44 : ∀ (x4 : Int32) (a_M_refused : Nat → Int32) (a_M_talks : Nat → Int32) (a_M_hasB : Nat → Int32) (a_M_hasA : Nat → Int32) (H : Heap) (locs : List Loc) (ls : Array Slot) (hl : lv_has ls 12 [(0, .ref q_M), (1, .int x1), (2, .int x2), (3, .int x3), (4, .int x4)]) (hP : va_P D vwCl (ws_X11_silence cI cJ cZ cA q_M q_M_refused q_M_talks q_M_hasB q_M_hasA q_M_now u_M_images u_M_kept u_M_text u_M_size u_M_sign u_M_manyAbove u_M_manyBelow u_M_above u_M_below u_M_at u_M_begin u_M_kind u_M_value u_M_read u_M_acts u_M_act u_M_waits u_M_wait u_M_held u_M_place u_M_heap u_M_clocks u_M_counts u_M_talking u_M_most u_M_big a_M_refused a_M_talks a_M_hasB a_M_hasA a_M_now) H) (hD : va_D A (ws_X11_silence cI cJ cZ cA q_M q_M_refused q_M_talks q_M_hasB q_M_hasA q_M_now u_M_images u_M_kept u_M_text u_M_size u_M_sign u_M_manyAbove u_M_manyBelow u_M_above u_M_below u_M_at u_M_begin u_M_kind u_M_value u_M_read u_M_acts u_M_act u_M_waits u_M_wait u_M_held u_M_place u_M_heap u_M_clocks u_M_counts u_M_talking u_M_most u_M_big a_M_refused a_M_talks a_M_hasB a_M_hasA a_M_now)) (hS : va_S A s.heap H locs), k44 x4 a_M_refused a_M_talks a_M_hasB a_M_hasA = some o → W p l e rm_X11_silence s m args below meth c H locs 0 0 Q (F0 m 44 ls [])) (k52 : Int32 → Int32 → (Nat → Int32) → (Nat → Int32) → (Nat → Int32) → (Nat → Int32) → Option (Int32 × (Nat → Int32) × (Nat → Int32) × (Nat → Int32) × (Nat → Int32))) (hk52 : ∀ (x4 : Int32) (x5 : Int32) (a_M_refused : Nat → Int32) (a_M_talks : Nat → Int32) (a_M_hasB : Nat → Int32) (a_M_hasA : Nat → Int32) (H : Heap) (locs : List Loc) (ls : Array Slot) (hl : lv_has ls 12 [(0, .ref q_M), (1, .int x1), (2, .int x2), (3, .int x3), (4, .int x4), (5, .int x5)]) (hP : va_P D vwCl (ws_X11_silence cI cJ cZ cA q_M q_M_refused q_M_talks q_M_hasB q_M_hasA q_M_now u_M_images u_M_kept u_M_text u_M_size u_M_sign u_M_manyAbove u_M_manyBelow u_M_above u_M_below u_M_at u_M_begin u_M_kind u_M_value u_M_read u_M_acts u_M_act u_M_waits u_M_wait u_M_held u_M_place u_M_heap u_M_clocks u_M_counts u_M_talking u_M_most u_M_big a_M_refused a_M_talks a_M_hasB a_M_hasA a_M_now) H) (hD : va_D A (ws_X11_silence cI cJ cZ cA q_M q_M_refused q_M_talks q_M_hasB q_M_hasA q_M_now u_M_images u_M_kept u_M_text u_M_size u_M_sign u_M_manyAbove u_M_manyBelow u_M_above u_M_below u_M_at u_M_begin u_M_kind u_M_value u_M_read u_M_acts u_M_act u_M_waits u_M_wait u_M_held u_M_place u_M_heap u_M_clocks u_M_counts u_M_talking u_M_most u_M_big a_M_refused a_M_talks a_M_hasB a_M_hasA a_M_now)) (hS : va_S A s.heap H locs), k52 x4 x5 a_M_refused a_M_talks a_M_hasB a_M_hasA = some o → W p l e rm_X11_silence s m args below meth c H locs 0 0 Q (F0 m 52 ls [])) (x4 : Int32) (x5 : Int32) (t1 : Int32) (t2 : Int32) (a_M_refused : Nat → Int32) (a_M_talks : Nat → Int32) (a_M_hasB : Nat → Int32) (a_M_hasA : Nat → Int32) (H : Heap) (locs : List Loc) (ls : Array Slot) (hl : lv_has ls 12 [(0, .ref q_M), (1, .int x1), (2, .int x2), (3, .int x3), (4, .int x4), (5, .int x5)]) (hP : va_P D vwCl (ws_X11_silence cI cJ cZ cA q_M q_M_refused q_M_talks q_M_hasB q_M_hasA q_M_now u_M_images u_M_kept u_M_text u_M_size u_M_sign u_M_manyAbove u_M_manyBelow u_M_above u_M_below u_M_at u_M_begin u_M_kind u_M_value u_M_read u_M_acts u_M_act u_M_waits u_M_wait u_M_held u_M_place u_M_heap u_M_clocks u_M_counts u_M_talking u_M_most u_M_big a_M_refused a_M_talks a_M_hasB a_M_hasA a_M_now) H) (hD : va_D A (ws_X11_silence cI cJ cZ cA q_M q_M_refused q_M_talks q_M_hasB q_M_hasA q_M_now u_M_images u_M_kept u_M_text u_M_size u_M_sign u_M_manyAbove u_M_manyBelow u_M_above u_M_below u_M_at u_M_begin u_M_kind u_M_value u_M_read u_M_acts u_M_act u_M_waits u_M_wait u_M_held u_M_place u_M_heap u_M_clocks u_M_counts u_M_talking u_M_most u_M_big a_M_refused a_M_talks a_M_hasB a_M_hasA a_M_now)) (hS : va_S A s.heap H locs), g_X11_silence_367 a_M_now x1 x2 x3 k44 k52 x4 x5 t1 t2 a_M_refused a_M_talks a_M_hasB a_M_hasA = some o → W p l e rm_X11_silence s m args below meth c H locs 0 0 Q (F0 m 367 ls [.int t2, .int t1, .ref q_M_hasB]) := by
    intro k44 hk44 k52 hk52 x4 x5 t1 t2 a_M_refused a_M_talks a_M_hasB a_M_hasA H locs ls hl hP hD hS hg
    obtain ⟨h20, hg⟩ := zck hg
    refine ziast hx hb hK hP hD hS 3 0 rfl rfl (j := (t1.toNatClampNeg)) h20 rfl dX11_silence_367 (w2 := (ws_X11_silence cI cJ cZ cA q_M q_M_refused q_M_talks q_M_hasB q_M_hasA q_M_now u_M_images u_M_kept u_M_text u_M_size u_M_sign u_M_manyAbove u_M_manyBelow u_M_above u_M_below u_M_at u_M_begin u_M_kind u_M_value u_M_read u_M_acts u_M_act u_M_waits u_M_wait u_M_held u_M_place u_M_heap u_M_clocks u_M_counts u_M_talking u_M_most u_M_big a_M_refused a_M_talks (upd a_M_hasB (t1.toNatClampNeg) t2) a_M_hasA a_M_now)) rfl (fun H locs hP hD hS => ?_)
    exact B368 k44 hk44 k52 hk52 x4 x5 a_M_refused a_M_talks (upd a_M_hasB (t1.toNatClampNeg) t2) a_M_hasA _ _ _ hl hP hD hS hg
  have B348 : ∀ (k44 : Int32 → (Nat → Int32) → (Nat → Int32) → (Nat → Int32) → (Nat → Int32) → Option (Int32 × (Nat → Int32) × (Nat → Int32) × (Nat → Int32) × (Nat → Int32))) (hk44 : ∀ (x4 : Int32) (a_M_refused : Nat → Int32) (a_M_talks : Nat → Int32) (a_M_hasB : Nat → Int32) (a_M_hasA : Nat → Int32) (H : Heap) (locs : List Loc) (ls : Array Slot) (hl : lv_has ls 12 [(0, .ref q_M), (1, .int x1), (2, .int x2), (3, .int x3), (4, .int x4)]) (hP : va_P D vwCl (ws_X11_silence cI cJ cZ cA q_M q_M_refused q_M_talks q_M_hasB q_M_hasA q_M_now u_M_images u_M_kept u_M_text u_M_size u_M_sign u_M_manyAbove u_M_manyBelow u_M_above u_M_below u_M_at u_M_begin u_M_kind u_M_value u_M_read u_M_acts u_M_act u_M_waits u_M_wait u_M_held u_M_place u_M_heap u_M_clocks u_M_counts u_M_talking u_M_most u_M_big a_M_refused a_M_talks a_M_hasB a_M_hasA a_M_now) H) (hD : va_D A (ws_X11_silence cI cJ cZ cA q_M q_M_refused q_M_talks q_M_hasB q_M_hasA q_M_now u_M_images u_M_kept u_M_text u_M_size u_M_sign u_M_manyAbove u_M_manyBelow u_M_above u_M_below u_M_at u_M_begin u_M_kind u_M_value u_M_read u_M_acts u_M_act u_M_waits u_M_wait u_M_held u_M_place u_M_heap u_M_clocks u_M_counts u_M_talking u_M_most u_M_big a_M_refused a_M_talks a_M_hasB a_M_hasA a_M_now)) (hS : va_S A s.heap H locs), k44 x4 a_M_refused a_M_talks a_M_hasB a_M_hasA = some o → W p l e rm_X11_silence s m args below meth c H locs 0 0 Q (F0 m 44 ls [])) (k52 : Int32 → Int32 → (Nat → Int32) → (Nat → Int32) → (Nat → Int32) → (Nat → Int32) → Option (Int32 × (Nat → Int32) × (Nat → Int32) × (Nat → Int32) × (Nat → Int32))) (hk52 : ∀ (x4 : Int32) (x5 : Int32) (a_M_refused : Nat → Int32) (a_M_talks : Nat → Int32) (a_M_hasB : Nat → Int32) (a_M_hasA : Nat → Int32) (H : Heap) (locs : List Loc) (ls : Array Slot) (hl : lv_has ls 12 [(0, .ref q_M), (1, .int x1), (2, .int x2), (3, .int x3), (4, .int x4), (5, .int x5)]) (hP : va_P D vwCl (ws_X11_silence cI cJ cZ cA q_M q_M_refused q_M_talks q_M_hasB q_M_hasA q_M_now u_M_images u_M_kept u_M_text u_M_size u_M_sign u_M_manyAbove u_M_manyBelow u_M_above u_M_below u_M_at u_M_begin u_M_kind u_M_value u_M_read u_M_acts u_M_act u_M_waits u_M_wait u_M_held u_M_place u_M_heap u_M_clocks u_M_counts u_M_talking u_M_most u_M_big a_M_refused a_M_talks a_M_hasB a_M_hasA a_M_now) H) (hD : va_D A (ws_X11_silence cI cJ cZ cA q_M q_M_refused q_M_talks q_M_hasB q_M_hasA q_M_now u_M_images u_M_kept u_M_text u_M_size u_M_sign u_M_manyAbove u_M_manyBelow u_M_above u_M_below u_M_at u_M_begin u_M_kind u_M_value u_M_read u_M_acts u_M_act u_M_waits u_M_wait u_M_held u_M_place u_M_heap u_M_clocks u_M_counts u_M_talking u_M_most u_M_big a_M_refused a_M_talks a_M_hasB a_M_hasA a_M_now)) (hS : va_S A s.heap H locs), k52 x4 x5 a_M_refused a_M_talks a_M_hasB a_M_hasA = some o → W p l e rm_X11_silence s m args below meth c H locs 0 0 Q (F0 m 52 ls [])) (x4 : Int32) (x5 : Int32) (t1 : Int32) (t2 : Int32) (t3 : Int32) (a_M_refused : Nat → Int32) (a_M_talks : Nat → Int32) (a_M_hasB : Nat → Int32) (a_M_hasA : Nat → Int32) (H : Heap) (locs : List Loc) (ls : Array Slot) (hl : lv_has ls 12 [(0, .ref q_M), (1, .int x1), (2, .int x2), (3, .int x3), (4, .int x4), (5, .int x5)]) (hP : va_P D vwCl (ws_X11_silence cI cJ cZ cA q_M q_M_refused q_M_talks q_M_hasB q_M_hasA q_M_now u_M_images u_M_kept u_M_text u_M_size u_M_sign u_M_manyAbove u_M_manyBelow u_M_above u_M_below u_M_at u_M_begin u_M_kind u_M_value u_M_read u_M_acts u_M_act u_M_waits u_M_wait u_M_held u_M_place u_M_heap u_M_clocks u_M_counts u_M_talking u_M_most u_M_big a_M_refused a_M_talks a_M_hasB a_M_hasA a_M_now) H) (hD : va_D A (ws_X11_silence cI cJ cZ cA q_M q_M_refused q_M_talks q_M_hasB q_M_hasA q_M_now u_M_images u_M_kept u_M_text u_M_size u_M_sign u_M_manyAbove u_M_manyBelow u_M_above u_M_below u_M_at u_M_begin u_M_kind u_M_value u_M_read u_M_acts u_M_act u_M_waits u_M_wait u_M_held u_M_place u_M_heap u_M_clocks u_M_counts u_M_talking u_M_most u_M_big a_M_refused a_M_talks a_M_hasB a_M_hasA a_M_now)) (hS : va_S A s.heap H locs), g_X11_silence_348 a_M_now x1 x2 x3 k44 k52 x4 x5 t1 t2 t3 a_M_refused a_M_talks a_M_hasB a_M_hasA = some o → W p l e rm_X11_silence s m args below meth c H locs 0 0 Q (F0 m 348 ls [.int t3, .int t2, .int t1, .ref q_M_hasB]) := by
    intro k44 hk44 k52 hk52 x4 x5 t1 t2 t3 a_M_refused a_M_talks a_M_hasB a_M_hasA H locs ls hl hP hD hS hg
    refine lv_isub hx hb dX11_silence_348 ?_
    refine lv_goto (tgt := 367) hx hb dX11_silence_349 (by decide) ?_
    exact B367 k44 hk44 k52 hk52 x4 x5 t1 (t2 - t3) a_M_refused a_M_talks a_M_hasB a_M_hasA _ _ _ hl hP hD hS hg
  have B308 : ∀ (k44 : Int32 → (Nat → Int32) → (Nat → Int32) → (Nat → Int32) → (Nat → Int32) → Option (Int32 × (Nat → Int32) × (Nat → Int32) × (Nat → Int32) × (Nat → Int32))) (hk44 : ∀ (x4 : Int32) (a_M_refused : Nat → Int32) (a_M_talks : Nat → Int32) (a_M_hasB : Nat → Int32) (a_M_hasA : Nat → Int32) (H : Heap) (locs : List Loc) (ls : Array Slot) (hl : lv_has ls 12 [(0, .ref q_M), (1, .int x1), (2, .int x2), (3, .int x3), (4, .int x4)]) (hP : va_P D vwCl (ws_X11_silence cI cJ cZ cA q_M q_M_refused q_M_talks q_M_hasB q_M_hasA q_M_now u_M_images u_M_kept u_M_text u_M_size u_M_sign u_M_manyAbove u_M_manyBelow u_M_above u_M_below u_M_at u_M_begin u_M_kind u_M_value u_M_read u_M_acts u_M_act u_M_waits u_M_wait u_M_held u_M_place u_M_heap u_M_clocks u_M_counts u_M_talking u_M_most u_M_big a_M_refused a_M_talks a_M_hasB a_M_hasA a_M_now) H) (hD : va_D A (ws_X11_silence cI cJ cZ cA q_M q_M_refused q_M_talks q_M_hasB q_M_hasA q_M_now u_M_images u_M_kept u_M_text u_M_size u_M_sign u_M_manyAbove u_M_manyBelow u_M_above u_M_below u_M_at u_M_begin u_M_kind u_M_value u_M_read u_M_acts u_M_act u_M_waits u_M_wait u_M_held u_M_place u_M_heap u_M_clocks u_M_counts u_M_talking u_M_most u_M_big a_M_refused a_M_talks a_M_hasB a_M_hasA a_M_now)) (hS : va_S A s.heap H locs), k44 x4 a_M_refused a_M_talks a_M_hasB a_M_hasA = some o → W p l e rm_X11_silence s m args below meth c H locs 0 0 Q (F0 m 44 ls [])) (k52 : Int32 → Int32 → (Nat → Int32) → (Nat → Int32) → (Nat → Int32) → (Nat → Int32) → Option (Int32 × (Nat → Int32) × (Nat → Int32) × (Nat → Int32) × (Nat → Int32))) (hk52 : ∀ (x4 : Int32) (x5 : Int32) (a_M_refused : Nat → Int32) (a_M_talks : Nat → Int32) (a_M_hasB : Nat → Int32) (a_M_hasA : Nat → Int32) (H : Heap) (locs : List Loc) (ls : Array Slot) (hl : lv_has ls 12 [(0, .ref q_M), (1, .int x1), (2, .int x2), (3, .int x3), (4, .int x4), (5, .int x5)]) (hP : va_P D vwCl (ws_X11_silence cI cJ cZ cA q_M q_M_refused q_M_talks q_M_hasB q_M_hasA q_M_now u_M_images u_M_kept u_M_text u_M_size u_M_sign u_M_manyAbove u_M_manyBelow u_M_above u_M_below u_M_at u_M_begin u_M_kind u_M_value u_M_read u_M_acts u_M_act u_M_waits u_M_wait u_M_held u_M_place u_M_heap u_M_clocks u_M_counts u_M_talking u_M_most u_M_big a_M_refused a_M_talks a_M_hasB a_M_hasA a_M_now) H) (hD : va_D A (ws_X11_silence cI cJ cZ cA q_M q_M_refused q_M_talks q_M_hasB q_M_hasA q_M_now u_M_images u_M_kept u_M_text u_M_size u_M_sign u_M_manyAbove u_M_manyBelow u_M_above u_M_below u_M_at u_M_begin u_M_kind u_M_value u_M_read u_M_acts u_M_act u_M_waits u_M_wait u_M_held u_M_place u_M_heap u_M_clocks u_M_counts u_M_talking u_M_most u_M_big a_M_refused a_M_talks a_M_hasB a_M_hasA a_M_now)) (hS : va_S A s.heap H locs), k52 x4 x5 a_M_refused a_M_talks a_M_hasB a_M_hasA = some o → W p l e rm_X11_silence s m args below meth c H locs 0 0 Q (F0 m 52 ls [])) (x4 : Int32) (x5 : Int32) (x6 : Int32) (x7 : Int32) (x8 : Int32) (x9 : Int32) (t1 : Int32) (t2 : Int32) (a_M_refused : Nat → Int32) (a_M_talks : Nat → Int32) (a_M_hasB : Nat → Int32) (a_M_hasA : Nat → Int32) (H : Heap) (locs : List Loc) (ls : Array Slot) (hl : lv_has ls 12 [(0, .ref q_M), (1, .int x1), (2, .int x2), (3, .int x3), (4, .int x4), (5, .int x5), (6, .int x6), (7, .int x7), (8, .int x8), (9, .int x9)]) (hP : va_P D vwCl (ws_X11_silence cI cJ cZ cA q_M q_M_refused q_M_talks q_M_hasB q_M_hasA q_M_now u_M_images u_M_kept u_M_text u_M_size u_M_sign u_M_manyAbove u_M_manyBelow u_M_above u_M_below u_M_at u_M_begin u_M_kind u_M_value u_M_read u_M_acts u_M_act u_M_waits u_M_wait u_M_held u_M_place u_M_heap u_M_clocks u_M_counts u_M_talking u_M_most u_M_big a_M_refused a_M_talks a_M_hasB a_M_hasA a_M_now) H) (hD : va_D A (ws_X11_silence cI cJ cZ cA q_M q_M_refused q_M_talks q_M_hasB q_M_hasA q_M_now u_M_images u_M_kept u_M_text u_M_size u_M_sign u_M_manyAbove u_M_manyBelow u_M_above u_M_below u_M_at u_M_begin u_M_kind u_M_value u_M_read u_M_acts u_M_act u_M_waits u_M_wait u_M_held u_M_place u_M_heap u_M_clocks u_M_counts u_M_talking u_M_most u_M_big a_M_refused a_M_talks a_M_hasB a_M_hasA a_M_now)) (hS : va_S A s.heap H locs), g_X11_silence_308 a_M_now x1 x2 x3 k44 k52 x4 x5 x6 x7 x8 x9 t1 t2 a_M_refused a_M_talks a_M_hasB a_M_hasA = some o → W p l e rm_X11_silence s m args below meth c H locs 0 0 Q (F0 m 308 ls [.int t2, .int t1, .ref q_M_hasA]) := by
    intro k44 hk44 k52 hk52 x4 x5 x6 x7 x8 x9 t1 t2 a_M_refused a_M_talks a_M_hasB a_M_hasA H locs ls hl hP hD hS hg
    obtain ⟨h17, hg⟩ := zck hg
    refine ziast hx hb hK hP hD hS 4 0 rfl rfl (j := (t1.toNatClampNeg)) h17 rfl dX11_silence_308 (w2 := (ws_X11_silence cI cJ cZ cA q_M q_M_refused q_M_talks q_M_hasB q_M_hasA q_M_now u_M_images u_M_kept u_M_text u_M_size u_M_sign u_M_manyAbove u_M_manyBelow u_M_above u_M_below u_M_at u_M_begin u_M_kind u_M_value u_M_read u_M_acts u_M_act u_M_waits u_M_wait u_M_held u_M_place u_M_heap u_M_clocks u_M_counts u_M_talking u_M_most u_M_big a_M_refused a_M_talks a_M_hasB (upd a_M_hasA (t1.toNatClampNeg) t2) a_M_now)) rfl (fun H locs hP hD hS => ?_)
    refine lv_aload_n hx hb dX11_silence_309 rfl (lv_at hl 0 rfl) ?_
    refine zget (C := RX11) (T := TX11) (N := 31) S hK hP 0 rfl rfl 28 (Nat.le_of_ble_eq_true rfl) zf_11 zw_167 rfl dX11_silence_310 ?_
    refine lv_iload hx hb dX11_silence_313 (lv_at hl 6 rfl) ?_
    refine lv_aload_n hx hb dX11_silence_315 rfl (lv_at hl 0 rfl) ?_
    refine zget (C := RX11) (T := TX11) (N := 31) S hK hP 0 rfl rfl 29 (Nat.le_of_ble_eq_true rfl) zf_11 zw_168 rfl dX11_silence_316 ?_
    refine lv_iload hx hb dX11_silence_319 (lv_at hl 6 rfl) ?_
    obtain ⟨h18, hg⟩ := zck hg
    refine zzald hx hb hK hP 2 2 rfl rfl (j := (x6.toNatClampNeg)) h18 rfl dX11_silence_321 ?_
    refine lv_if_eq (tgt := 352) hx hb dX11_silence_322 (by decide) (fun h322 => ?_) (fun h322 => ?_)
    · have hg := zp hg h322
      refine lv_aload_n hx hb dX11_silence_352 rfl (lv_at hl 0 rfl) ?_
      refine zget (C := RX11) (T := TX11) (N := 31) S hK hP 0 rfl rfl 28 (Nat.le_of_ble_eq_true rfl) zf_11 zw_167 rfl dX11_silence_353 ?_
      refine lv_iload hx hb dX11_silence_356 (lv_at hl 8 rfl) ?_
      obtain ⟨h19, hg⟩ := zck hg
      refine ziald hx hb hK hP 3 0 rfl rfl (j := (x8.toNatClampNeg)) h19 rfl dX11_silence_358 ?_
      refine lv_aload_n hx hb dX11_silence_359 rfl (lv_at hl 0 rfl) ?_
      refine zget (C := RX11) (T := TX11) (N := 31) S hK hP 0 rfl rfl 0 (Nat.le_of_ble_eq_true rfl) zf_11 zw_149 rfl dX11_silence_360 ?_
      refine lv_bipush (v := 9) hx hb dX11_silence_363 (by decide) ?_
      refine ziald hx hb hK hP 5 0 rfl rfl (j := 9) (zin (by decide)) (by decide) dX11_silence_365 ?_
      refine lv_isub hx hb dX11_silence_366 ?_
      exact B367 k44 hk44 k52 hk52 x4 x5 x6 ((a_M_hasB (x8.toNatClampNeg)) - (a_M_now 9)) a_M_refused a_M_talks a_M_hasB (upd a_M_hasA (t1.toNatClampNeg) t2) _ _ _ (lv_sub hl [0, 1, 2, 3, 4, 5] rfl) hP hD hS hg
    · have hg := zn hg h322
      refine lv_aload_n hx hb dX11_silence_325 rfl (lv_at hl 0 rfl) ?_
      refine zget (C := RX11) (T := TX11) (N := 31) S hK hP 0 rfl rfl 28 (Nat.le_of_ble_eq_true rfl) zf_11 zw_167 rfl dX11_silence_326 ?_
      refine lv_iload hx hb dX11_silence_329 (lv_at hl 9 rfl) ?_
      obtain ⟨h21, hg⟩ := zck hg
      refine ziald hx hb hK hP 3 0 rfl rfl (j := (x9.toNatClampNeg)) h21 rfl dX11_silence_331 ?_
      refine lv_iload hx hb dX11_silence_332 (lv_at hl 7 rfl) ?_
      refine lv_if_eq (tgt := 341) hx hb dX11_silence_334 (by decide) (fun h334 => ?_) (fun h334 => ?_)
      · have hg := zp hg h334
        refine lv_aload_n hx hb dX11_silence_341 rfl (lv_at hl 0 rfl) ?_
        refine zget (C := RX11) (T := TX11) (N := 31) S hK hP 0 rfl rfl 0 (Nat.le_of_ble_eq_true rfl) zf_11 zw_149 rfl dX11_silence_342 ?_
        refine lv_bipush (v := 12) hx hb dX11_silence_345 (by decide) ?_
        refine ziald hx hb hK hP 5 0 rfl rfl (j := 12) (zin (by decide)) (by decide) dX11_silence_347 ?_
        exact B348 k44 hk44 k52 hk52 x4 x5 x6 (a_M_hasB (x9.toNatClampNeg)) (a_M_now 12) a_M_refused a_M_talks a_M_hasB (upd a_M_hasA (t1.toNatClampNeg) t2) _ _ _ (lv_sub hl [0, 1, 2, 3, 4, 5] rfl) hP hD hS hg
      · have hg := zn hg h334
        refine lv_iconst (v := 0) hx hb dX11_silence_337 (by decide) ?_
        refine lv_goto (tgt := 348) hx hb dX11_silence_338 (by decide) ?_
        exact B348 k44 hk44 k52 hk52 x4 x5 x6 (a_M_hasB (x9.toNatClampNeg)) 0 a_M_refused a_M_talks a_M_hasB (upd a_M_hasA (t1.toNatClampNeg) t2) _ _ _ (lv_sub hl [0, 1, 2, 3, 4, 5] rfl) hP hD hS hg
  have B289 : ∀ (k44 : Int32 → (Nat → Int32) → (Nat → Int32) → (Nat → Int32) → (Nat → Int32) → Option (Int32 × (Nat → Int32) × (Nat → Int32) × (Nat → Int32) × (Nat → Int32))) (hk44 : ∀ (x4 : Int32) (a_M_refused : Nat → Int32) (a_M_talks : Nat → Int32) (a_M_hasB : Nat → Int32) (a_M_hasA : Nat → Int32) (H : Heap) (locs : List Loc) (ls : Array Slot) (hl : lv_has ls 12 [(0, .ref q_M), (1, .int x1), (2, .int x2), (3, .int x3), (4, .int x4)]) (hP : va_P D vwCl (ws_X11_silence cI cJ cZ cA q_M q_M_refused q_M_talks q_M_hasB q_M_hasA q_M_now u_M_images u_M_kept u_M_text u_M_size u_M_sign u_M_manyAbove u_M_manyBelow u_M_above u_M_below u_M_at u_M_begin u_M_kind u_M_value u_M_read u_M_acts u_M_act u_M_waits u_M_wait u_M_held u_M_place u_M_heap u_M_clocks u_M_counts u_M_talking u_M_most u_M_big a_M_refused a_M_talks a_M_hasB a_M_hasA a_M_now) H) (hD : va_D A (ws_X11_silence cI cJ cZ cA q_M q_M_refused q_M_talks q_M_hasB q_M_hasA q_M_now u_M_images u_M_kept u_M_text u_M_size u_M_sign u_M_manyAbove u_M_manyBelow u_M_above u_M_below u_M_at u_M_begin u_M_kind u_M_value u_M_read u_M_acts u_M_act u_M_waits u_M_wait u_M_held u_M_place u_M_heap u_M_clocks u_M_counts u_M_talking u_M_most u_M_big a_M_refused a_M_talks a_M_hasB a_M_hasA a_M_now)) (hS : va_S A s.heap H locs), k44 x4 a_M_refused a_M_talks a_M_hasB a_M_hasA = some o → W p l e rm_X11_silence s m args below meth c H locs 0 0 Q (F0 m 44 ls [])) (k52 : Int32 → Int32 → (Nat → Int32) → (Nat → Int32) → (Nat → Int32) → (Nat → Int32) → Option (Int32 × (Nat → Int32) × (Nat → Int32) × (Nat → Int32) × (Nat → Int32))) (hk52 : ∀ (x4 : Int32) (x5 : Int32) (a_M_refused : Nat → Int32) (a_M_talks : Nat → Int32) (a_M_hasB : Nat → Int32) (a_M_hasA : Nat → Int32) (H : Heap) (locs : List Loc) (ls : Array Slot) (hl : lv_has ls 12 [(0, .ref q_M), (1, .int x1), (2, .int x2), (3, .int x3), (4, .int x4), (5, .int x5)]) (hP : va_P D vwCl (ws_X11_silence cI cJ cZ cA q_M q_M_refused q_M_talks q_M_hasB q_M_hasA q_M_now u_M_images u_M_kept u_M_text u_M_size u_M_sign u_M_manyAbove u_M_manyBelow u_M_above u_M_below u_M_at u_M_begin u_M_kind u_M_value u_M_read u_M_acts u_M_act u_M_waits u_M_wait u_M_held u_M_place u_M_heap u_M_clocks u_M_counts u_M_talking u_M_most u_M_big a_M_refused a_M_talks a_M_hasB a_M_hasA a_M_now) H) (hD : va_D A (ws_X11_silence cI cJ cZ cA q_M q_M_refused q_M_talks q_M_hasB q_M_hasA q_M_now u_M_images u_M_kept u_M_text u_M_size u_M_sign u_M_manyAbove u_M_manyBelow u_M_above u_M_below u_M_at u_M_begin u_M_kind u_M_value u_M_read u_M_acts u_M_act u_M_waits u_M_wait u_M_held u_M_place u_M_heap u_M_clocks u_M_counts u_M_talking u_M_most u_M_big a_M_refused a_M_talks a_M_hasB a_M_hasA a_M_now)) (hS : va_S A s.heap H locs), k52 x4 x5 a_M_refused a_M_talks a_M_hasB a_M_hasA = some o → W p l e rm_X11_silence s m args below meth c H locs 0 0 Q (F0 m 52 ls [])) (x4 : Int32) (x5 : Int32) (x6 : Int32) (x7 : Int32) (x8 : Int32) (x9 : Int32) (t1 : Int32) (t2 : Int32) (t3 : Int32) (a_M_refused : Nat → Int32) (a_M_talks : Nat → Int32) (a_M_hasB : Nat → Int32) (a_M_hasA : Nat → Int32) (H : Heap) (locs : List Loc) (ls : Array Slot) (hl : lv_has ls 12 [(0, .ref q_M), (1, .int x1), (2, .int x2), (3, .int x3), (4, .int x4), (5, .int x5), (6, .int x6), (7, .int x7), (8, .int x8), (9, .int x9)]) (hP : va_P D vwCl (ws_X11_silence cI cJ cZ cA q_M q_M_refused q_M_talks q_M_hasB q_M_hasA q_M_now u_M_images u_M_kept u_M_text u_M_size u_M_sign u_M_manyAbove u_M_manyBelow u_M_above u_M_below u_M_at u_M_begin u_M_kind u_M_value u_M_read u_M_acts u_M_act u_M_waits u_M_wait u_M_held u_M_place u_M_heap u_M_clocks u_M_counts u_M_talking u_M_most u_M_big a_M_refused a_M_talks a_M_hasB a_M_hasA a_M_now) H) (hD : va_D A (ws_X11_silence cI cJ cZ cA q_M q_M_refused q_M_talks q_M_hasB q_M_hasA q_M_now u_M_images u_M_kept u_M_text u_M_size u_M_sign u_M_manyAbove u_M_manyBelow u_M_above u_M_below u_M_at u_M_begin u_M_kind u_M_value u_M_read u_M_acts u_M_act u_M_waits u_M_wait u_M_held u_M_place u_M_heap u_M_clocks u_M_counts u_M_talking u_M_most u_M_big a_M_refused a_M_talks a_M_hasB a_M_hasA a_M_now)) (hS : va_S A s.heap H locs), g_X11_silence_289 a_M_now x1 x2 x3 k44 k52 x4 x5 x6 x7 x8 x9 t1 t2 t3 a_M_refused a_M_talks a_M_hasB a_M_hasA = some o → W p l e rm_X11_silence s m args below meth c H locs 0 0 Q (F0 m 289 ls [.int t3, .int t2, .int t1, .ref q_M_hasA]) := by
    intro k44 hk44 k52 hk52 x4 x5 x6 x7 x8 x9 t1 t2 t3 a_M_refused a_M_talks a_M_hasB a_M_hasA H locs ls hl hP hD hS hg
    refine lv_isub hx hb dX11_silence_289 ?_
    refine lv_goto (tgt := 308) hx hb dX11_silence_290 (by decide) ?_
    exact B308 k44 hk44 k52 hk52 x4 x5 x6 x7 x8 x9 t1 (t2 - t3) a_M_refused a_M_talks a_M_hasB a_M_hasA _ _ _ hl hP hD hS hg
  have B249 : ∀ (k44 : Int32 → (Nat → Int32) → (Nat → Int32) → (Nat → Int32) → (Nat → Int32) → Option (Int32 × (Nat → Int32) × (Nat → Int32) × (Nat → Int32) × (Nat → Int32))) (hk44 : ∀ (x4 : Int32) (a_M_refused : Nat → Int32) (a_M_talks : Nat → Int32) (a_M_hasB : Nat → Int32) (a_M_hasA : Nat → Int32) (H : Heap) (locs : List Loc) (ls : Array Slot) (hl : lv_has ls 12 [(0, .ref q_M), (1, .int x1), (2, .int x2), (3, .int x3), (4, .int x4)]) (hP : va_P D vwCl (ws_X11_silence cI cJ cZ cA q_M q_M_refused q_M_talks q_M_hasB q_M_hasA q_M_now u_M_images u_M_kept u_M_text u_M_size u_M_sign u_M_manyAbove u_M_manyBelow u_M_above u_M_below u_M_at u_M_begin u_M_kind u_M_value u_M_read u_M_acts u_M_act u_M_waits u_M_wait u_M_held u_M_place u_M_heap u_M_clocks u_M_counts u_M_talking u_M_most u_M_big a_M_refused a_M_talks a_M_hasB a_M_hasA a_M_now) H) (hD : va_D A (ws_X11_silence cI cJ cZ cA q_M q_M_refused q_M_talks q_M_hasB q_M_hasA q_M_now u_M_images u_M_kept u_M_text u_M_size u_M_sign u_M_manyAbove u_M_manyBelow u_M_above u_M_below u_M_at u_M_begin u_M_kind u_M_value u_M_read u_M_acts u_M_act u_M_waits u_M_wait u_M_held u_M_place u_M_heap u_M_clocks u_M_counts u_M_talking u_M_most u_M_big a_M_refused a_M_talks a_M_hasB a_M_hasA a_M_now)) (hS : va_S A s.heap H locs), k44 x4 a_M_refused a_M_talks a_M_hasB a_M_hasA = some o → W p l e rm_X11_silence s m args below meth c H locs 0 0 Q (F0 m 44 ls [])) (k52 : Int32 → Int32 → (Nat → Int32) → (Nat → Int32) → (Nat → Int32) → (Nat → Int32) → Option (Int32 × (Nat → Int32) × (Nat → Int32) × (Nat → Int32) × (Nat → Int32))) (hk52 : ∀ (x4 : Int32) (x5 : Int32) (a_M_refused : Nat → Int32) (a_M_talks : Nat → Int32) (a_M_hasB : Nat → Int32) (a_M_hasA : Nat → Int32) (H : Heap) (locs : List Loc) (ls : Array Slot) (hl : lv_has ls 12 [(0, .ref q_M), (1, .int x1), (2, .int x2), (3, .int x3), (4, .int x4), (5, .int x5)]) (hP : va_P D vwCl (ws_X11_silence cI cJ cZ cA q_M q_M_refused q_M_talks q_M_hasB q_M_hasA q_M_now u_M_images u_M_kept u_M_text u_M_size u_M_sign u_M_manyAbove u_M_manyBelow u_M_above u_M_below u_M_at u_M_begin u_M_kind u_M_value u_M_read u_M_acts u_M_act u_M_waits u_M_wait u_M_held u_M_place u_M_heap u_M_clocks u_M_counts u_M_talking u_M_most u_M_big a_M_refused a_M_talks a_M_hasB a_M_hasA a_M_now) H) (hD : va_D A (ws_X11_silence cI cJ cZ cA q_M q_M_refused q_M_talks q_M_hasB q_M_hasA q_M_now u_M_images u_M_kept u_M_text u_M_size u_M_sign u_M_manyAbove u_M_manyBelow u_M_above u_M_below u_M_at u_M_begin u_M_kind u_M_value u_M_read u_M_acts u_M_act u_M_waits u_M_wait u_M_held u_M_place u_M_heap u_M_clocks u_M_counts u_M_talking u_M_most u_M_big a_M_refused a_M_talks a_M_hasB a_M_hasA a_M_now)) (hS : va_S A s.heap H locs), k52 x4 x5 a_M_refused a_M_talks a_M_hasB a_M_hasA = some o → W p l e rm_X11_silence s m args below meth c H locs 0 0 Q (F0 m 52 ls [])) (x4 : Int32) (x5 : Int32) (x6 : Int32) (x7 : Int32) (x8 : Int32) (x9 : Int32) (t1 : Int32) (t2 : Int32) (a_M_refused : Nat → Int32) (a_M_talks : Nat → Int32) (a_M_hasB : Nat → Int32) (a_M_hasA : Nat → Int32) (H : Heap) (locs : List Loc) (ls : Array Slot) (hl : lv_has ls 12 [(0, .ref q_M), (1, .int x1), (2, .int x2), (3, .int x3), (4, .int x4), (5, .int x5), (6, .int x6), (7, .int x7), (8, .int x8), (9, .int x9)]) (hP : va_P D vwCl (ws_X11_silence cI cJ cZ cA q_M q_M_refused q_M_talks q_M_hasB q_M_hasA q_M_now u_M_images u_M_kept u_M_text u_M_size u_M_sign u_M_manyAbove u_M_manyBelow u_M_above u_M_below u_M_at u_M_begin u_M_kind u_M_value u_M_read u_M_acts u_M_act u_M_waits u_M_wait u_M_held u_M_place u_M_heap u_M_clocks u_M_counts u_M_talking u_M_most u_M_big a_M_refused a_M_talks a_M_hasB a_M_hasA a_M_now) H) (hD : va_D A (ws_X11_silence cI cJ cZ cA q_M q_M_refused q_M_talks q_M_hasB q_M_hasA q_M_now u_M_images u_M_kept u_M_text u_M_size u_M_sign u_M_manyAbove u_M_manyBelow u_M_above u_M_below u_M_at u_M_begin u_M_kind u_M_value u_M_read u_M_acts u_M_act u_M_waits u_M_wait u_M_held u_M_place u_M_heap u_M_clocks u_M_counts u_M_talking u_M_most u_M_big a_M_refused a_M_talks a_M_hasB a_M_hasA a_M_now)) (hS : va_S A s.heap H locs), g_X11_silence_249 a_M_now x1 x2 x3 k44 k52 x4 x5 x6 x7 x8 x9 t1 t2 a_M_refused a_M_talks a_M_hasB a_M_hasA = some o → W p l e rm_X11_silence s m args below meth c H locs 0 0 Q (F0 m 249 ls [.int t2, .int t1, .ref q_M_talks]) := by
    intro k44 hk44 k52 hk52 x4 x5 x6 x7 x8 x9 t1 t2 a_M_refused a_M_talks a_M_hasB a_M_hasA H locs ls hl hP hD hS hg
    obtain ⟨h14, hg⟩ := zck hg
    refine zzast hx hb hK hP hD hS 2 2 rfl rfl (j := (t1.toNatClampNeg)) (y := (vp_nar .boolean t2)) rfl h14 rfl dX11_silence_249 (w2 := (ws_X11_silence cI cJ cZ cA q_M q_M_refused q_M_talks q_M_hasB q_M_hasA q_M_now u_M_images u_M_kept u_M_text u_M_size u_M_sign u_M_manyAbove u_M_manyBelow u_M_above u_M_below u_M_at u_M_begin u_M_kind u_M_value u_M_read u_M_acts u_M_act u_M_waits u_M_wait u_M_held u_M_place u_M_heap u_M_clocks u_M_counts u_M_talking u_M_most u_M_big a_M_refused (upd a_M_talks (t1.toNatClampNeg) (vp_nar .boolean t2)) a_M_hasB a_M_hasA a_M_now)) rfl (fun H locs hP hD hS => ?_)
    refine lv_aload_n hx hb dX11_silence_250 rfl (lv_at hl 0 rfl) ?_
    refine zget (C := RX11) (T := TX11) (N := 31) S hK hP 0 rfl rfl 27 (Nat.le_of_ble_eq_true rfl) zf_11 zw_166 rfl dX11_silence_251 ?_
    refine lv_iload hx hb dX11_silence_254 (lv_at hl 6 rfl) ?_
    refine lv_aload_n hx hb dX11_silence_256 rfl (lv_at hl 0 rfl) ?_
    refine zget (C := RX11) (T := TX11) (N := 31) S hK hP 0 rfl rfl 29 (Nat.le_of_ble_eq_true rfl) zf_11 zw_168 rfl dX11_silence_257 ?_
    refine lv_iload hx hb dX11_silence_260 (lv_at hl 6 rfl) ?_
    obtain ⟨h15, hg⟩ := zck hg
    refine zzald hx hb hK hP 2 2 rfl rfl (j := (x6.toNatClampNeg)) h15 rfl dX11_silence_262 ?_
    refine lv_if_eq (tgt := 293) hx hb dX11_silence_263 (by decide) (fun h263 => ?_) (fun h263 => ?_)
    · have hg := zp hg h263
      refine lv_aload_n hx hb dX11_silence_293 rfl (lv_at hl 0 rfl) ?_
      refine zget (C := RX11) (T := TX11) (N := 31) S hK hP 0 rfl rfl 27 (Nat.le_of_ble_eq_true rfl) zf_11 zw_166 rfl dX11_silence_294 ?_
      refine lv_iload hx hb dX11_silence_297 (lv_at hl 8 rfl) ?_
      obtain ⟨h16, hg⟩ := zck hg
      refine ziald hx hb hK hP 4 0 rfl rfl (j := (x8.toNatClampNeg)) h16 rfl dX11_silence_299 ?_
      refine lv_aload_n hx hb dX11_silence_300 rfl (lv_at hl 0 rfl) ?_
      refine zget (C := RX11) (T := TX11) (N := 31) S hK hP 0 rfl rfl 0 (Nat.le_of_ble_eq_true rfl) zf_11 zw_149 rfl dX11_silence_301 ?_
      refine lv_bipush (v := 8) hx hb dX11_silence_304 (by decide) ?_
      refine ziald hx hb hK hP 5 0 rfl rfl (j := 8) (zin (by decide)) (by decide) dX11_silence_306 ?_
      refine lv_isub hx hb dX11_silence_307 ?_
      exact B308 k44 hk44 k52 hk52 x4 x5 x6 x7 x8 x9 x6 ((a_M_hasA (x8.toNatClampNeg)) - (a_M_now 8)) a_M_refused (upd a_M_talks (t1.toNatClampNeg) (vp_nar .boolean t2)) a_M_hasB a_M_hasA _ _ _ hl hP hD hS hg
    · have hg := zn hg h263
      refine lv_aload_n hx hb dX11_silence_266 rfl (lv_at hl 0 rfl) ?_
      refine zget (C := RX11) (T := TX11) (N := 31) S hK hP 0 rfl rfl 27 (Nat.le_of_ble_eq_true rfl) zf_11 zw_166 rfl dX11_silence_267 ?_
      refine lv_iload hx hb dX11_silence_270 (lv_at hl 9 rfl) ?_
      obtain ⟨h22, hg⟩ := zck hg
      refine ziald hx hb hK hP 4 0 rfl rfl (j := (x9.toNatClampNeg)) h22 rfl dX11_silence_272 ?_
      refine lv_iload hx hb dX11_silence_273 (lv_at hl 7 rfl) ?_
      refine lv_if_eq (tgt := 288) hx hb dX11_silence_275 (by decide) (fun h275 => ?_) (fun h275 => ?_)
      · have hg := zp hg h275
        refine lv_iconst (v := 0) hx hb dX11_silence_288 (by decide) ?_
        exact B289 k44 hk44 k52 hk52 x4 x5 x6 x7 x8 x9 x6 (a_M_hasA (x9.toNatClampNeg)) 0 a_M_refused (upd a_M_talks (t1.toNatClampNeg) (vp_nar .boolean t2)) a_M_hasB a_M_hasA _ _ _ hl hP hD hS hg
      · have hg := zn hg h275
        refine lv_aload_n hx hb dX11_silence_278 rfl (lv_at hl 0 rfl) ?_
        refine zget (C := RX11) (T := TX11) (N := 31) S hK hP 0 rfl rfl 0 (Nat.le_of_ble_eq_true rfl) zf_11 zw_149 rfl dX11_silence_279 ?_
        refine lv_bipush (v := 12) hx hb dX11_silence_282 (by decide) ?_
        refine ziald hx hb hK hP 5 0 rfl rfl (j := 12) (zin (by decide)) (by decide) dX11_silence_284 ?_
        refine lv_goto (tgt := 289) hx hb dX11_silence_285 (by decide) ?_
        exact B289 k44 hk44 k52 hk52 x4 x5 x6 x7 x8 x9 x6 (a_M_hasA (x9.toNatClampNeg)) (a_M_now 12) a_M_refused (upd a_M_talks (t1.toNatClampNeg) (vp_nar .boolean t2)) a_M_hasB a_M_hasA _ _ _ hl hP hD hS hg
  have B221 : ∀ (k44 : Int32 → (Nat → Int32) → (Nat → Int32) → (Nat → Int32) → (Nat → Int32) → Option (Int32 × (Nat → Int32) × (Nat → Int32) × (Nat → Int32) × (Nat → Int32))) (hk44 : ∀ (x4 : Int32) (a_M_refused : Nat → Int32) (a_M_talks : Nat → Int32) (a_M_hasB : Nat → Int32) (a_M_hasA : Nat → Int32) (H : Heap) (locs : List Loc) (ls : Array Slot) (hl : lv_has ls 12 [(0, .ref q_M), (1, .int x1), (2, .int x2), (3, .int x3), (4, .int x4)]) (hP : va_P D vwCl (ws_X11_silence cI cJ cZ cA q_M q_M_refused q_M_talks q_M_hasB q_M_hasA q_M_now u_M_images u_M_kept u_M_text u_M_size u_M_sign u_M_manyAbove u_M_manyBelow u_M_above u_M_below u_M_at u_M_begin u_M_kind u_M_value u_M_read u_M_acts u_M_act u_M_waits u_M_wait u_M_held u_M_place u_M_heap u_M_clocks u_M_counts u_M_talking u_M_most u_M_big a_M_refused a_M_talks a_M_hasB a_M_hasA a_M_now) H) (hD : va_D A (ws_X11_silence cI cJ cZ cA q_M q_M_refused q_M_talks q_M_hasB q_M_hasA q_M_now u_M_images u_M_kept u_M_text u_M_size u_M_sign u_M_manyAbove u_M_manyBelow u_M_above u_M_below u_M_at u_M_begin u_M_kind u_M_value u_M_read u_M_acts u_M_act u_M_waits u_M_wait u_M_held u_M_place u_M_heap u_M_clocks u_M_counts u_M_talking u_M_most u_M_big a_M_refused a_M_talks a_M_hasB a_M_hasA a_M_now)) (hS : va_S A s.heap H locs), k44 x4 a_M_refused a_M_talks a_M_hasB a_M_hasA = some o → W p l e rm_X11_silence s m args below meth c H locs 0 0 Q (F0 m 44 ls [])) (k52 : Int32 → Int32 → (Nat → Int32) → (Nat → Int32) → (Nat → Int32) → (Nat → Int32) → Option (Int32 × (Nat → Int32) × (Nat → Int32) × (Nat → Int32) × (Nat → Int32))) (hk52 : ∀ (x4 : Int32) (x5 : Int32) (a_M_refused : Nat → Int32) (a_M_talks : Nat → Int32) (a_M_hasB : Nat → Int32) (a_M_hasA : Nat → Int32) (H : Heap) (locs : List Loc) (ls : Array Slot) (hl : lv_has ls 12 [(0, .ref q_M), (1, .int x1), (2, .int x2), (3, .int x3), (4, .int x4), (5, .int x5)]) (hP : va_P D vwCl (ws_X11_silence cI cJ cZ cA q_M q_M_refused q_M_talks q_M_hasB q_M_hasA q_M_now u_M_images u_M_kept u_M_text u_M_size u_M_sign u_M_manyAbove u_M_manyBelow u_M_above u_M_below u_M_at u_M_begin u_M_kind u_M_value u_M_read u_M_acts u_M_act u_M_waits u_M_wait u_M_held u_M_place u_M_heap u_M_clocks u_M_counts u_M_talking u_M_most u_M_big a_M_refused a_M_talks a_M_hasB a_M_hasA a_M_now) H) (hD : va_D A (ws_X11_silence cI cJ cZ cA q_M q_M_refused q_M_talks q_M_hasB q_M_hasA q_M_now u_M_images u_M_kept u_M_text u_M_size u_M_sign u_M_manyAbove u_M_manyBelow u_M_above u_M_below u_M_at u_M_begin u_M_kind u_M_value u_M_read u_M_acts u_M_act u_M_waits u_M_wait u_M_held u_M_place u_M_heap u_M_clocks u_M_counts u_M_talking u_M_most u_M_big a_M_refused a_M_talks a_M_hasB a_M_hasA a_M_now)) (hS : va_S A s.heap H locs), k52 x4 x5 a_M_refused a_M_talks a_M_hasB a_M_hasA = some o → W p l e rm_X11_silence s m args below meth c H locs 0 0 Q (F0 m 52 ls [])) (x4 : Int32) (x5 : Int32) (x6 : Int32) (x7 : Int32) (x8 : Int32) (x9 : Int32) (x10 : Int32) (t0 : Int32) (a_M_refused : Nat → Int32) (a_M_talks : Nat → Int32) (a_M_hasB : Nat → Int32) (a_M_hasA : Nat → Int32) (H : Heap) (locs : List Loc) (ls : Array Slot) (hl : lv_has ls 12 [(0, .ref q_M), (1, .int x1), (2, .int x2), (3, .int x3), (4, .int x4), (5, .int x5), (6, .int x6), (7, .int x7), (8, .int x8), (9, .int x9), (10, .int x10)]) (hP : va_P D vwCl (ws_X11_silence cI cJ cZ cA q_M q_M_refused q_M_talks q_M_hasB q_M_hasA q_M_now u_M_images u_M_kept u_M_text u_M_size u_M_sign u_M_manyAbove u_M_manyBelow u_M_above u_M_below u_M_at u_M_begin u_M_kind u_M_value u_M_read u_M_acts u_M_act u_M_waits u_M_wait u_M_held u_M_place u_M_heap u_M_clocks u_M_counts u_M_talking u_M_most u_M_big a_M_refused a_M_talks a_M_hasB a_M_hasA a_M_now) H) (hD : va_D A (ws_X11_silence cI cJ cZ cA q_M q_M_refused q_M_talks q_M_hasB q_M_hasA q_M_now u_M_images u_M_kept u_M_text u_M_size u_M_sign u_M_manyAbove u_M_manyBelow u_M_above u_M_below u_M_at u_M_begin u_M_kind u_M_value u_M_read u_M_acts u_M_act u_M_waits u_M_wait u_M_held u_M_place u_M_heap u_M_clocks u_M_counts u_M_talking u_M_most u_M_big a_M_refused a_M_talks a_M_hasB a_M_hasA a_M_now)) (hS : va_S A s.heap H locs), g_X11_silence_221 a_M_now x1 x2 x3 k44 k52 x4 x5 x6 x7 x8 x9 x10 t0 a_M_refused a_M_talks a_M_hasB a_M_hasA = some o → W p l e rm_X11_silence s m args below meth c H locs 0 0 Q (F0 m 221 ls [.int t0]) := by
    intro k44 hk44 k52 hk52 x4 x5 x6 x7 x8 x9 x10 t0 a_M_refused a_M_talks a_M_hasB a_M_hasA H locs ls hl hP hD hS hg
    refine lv_aload_n hx hb dX11_silence_221 rfl (lv_at hl 0 rfl) ?_
    refine zget (C := RX11) (T := TX11) (N := 31) S hK hP 0 rfl rfl 0 (Nat.le_of_ble_eq_true rfl) zf_11 zw_149 rfl dX11_silence_222 ?_
    refine lv_bipush (v := 12) hx hb dX11_silence_225 (by decide) ?_
    refine ziald hx hb hK hP 5 0 rfl rfl (j := 12) (zin (by decide)) (by decide) dX11_silence_227 ?_
    refine lv_isub hx hb dX11_silence_228 ?_
    refine lv_istore (lv' := [(11, .int (t0 - (a_M_now 12))), (0, .ref q_M), (1, .int x1), (2, .int x2), (3, .int x3), (4, .int x4), (5, .int x5), (6, .int x6), (7, .int x7), (8, .int x8), (9, .int x9), (10, .int x10)]) hx hb dX11_silence_229 hl (by decide) rfl (fun ls hl => ?_)
    refine lv_aload_n hx hb dX11_silence_231 rfl (lv_at hl 1 rfl) ?_
    refine zget (C := RX11) (T := TX11) (N := 31) S hK hP 0 rfl rfl 29 (Nat.le_of_ble_eq_true rfl) zf_11 zw_168 rfl dX11_silence_232 ?_
    refine lv_iload hx hb dX11_silence_235 (lv_at hl 7 rfl) ?_
    refine lv_iload hx hb dX11_silence_237 (lv_at hl 0 rfl) ?_
    refine lv_iload hx hb dX11_silence_239 (lv_at hl 11 rfl) ?_
    refine lv_icmp_le (tgt := 248) hx hb dX11_silence_241 (by decide) (fun h241 => ?_) (fun h241 => ?_)
    · have hg := zp hg h241
      refine lv_iconst (v := 0) hx hb dX11_silence_248 (by decide) ?_
      exact B249 k44 hk44 k52 hk52 x4 x5 x6 x7 x8 x9 x6 0 a_M_refused a_M_talks a_M_hasB a_M_hasA _ _ _ (lv_sub hl [1, 2, 3, 4, 5, 6, 7, 8, 9, 10] rfl) hP hD hS hg
    · have hg := zn hg h241
      refine lv_iconst (v := 1) hx hb dX11_silence_244 (by decide) ?_
      refine lv_goto (tgt := 249) hx hb dX11_silence_245 (by decide) ?_
      exact B249 k44 hk44 k52 hk52 x4 x5 x6 x7 x8 x9 x6 1 a_M_refused a_M_talks a_M_hasB a_M_hasA _ _ _ (lv_sub hl [1, 2, 3, 4, 5, 6, 7, 8, 9, 10] rfl) hP hD hS hg
  have B197 : ∀ (k44 : Int32 → (Nat → Int32) → (Nat → Int32) → (Nat → Int32) → (Nat → Int32) → Option (Int32 × (Nat → Int32) × (Nat → Int32) × (Nat → Int32) × (Nat → Int32))) (hk44 : ∀ (x4 : Int32) (a_M_refused : Nat → Int32) (a_M_talks : Nat → Int32) (a_M_hasB : Nat → Int32) (a_M_hasA : Nat → Int32) (H : Heap) (locs : List Loc) (ls : Array Slot) (hl : lv_has ls 12 [(0, .ref q_M), (1, .int x1), (2, .int x2), (3, .int x3), (4, .int x4)]) (hP : va_P D vwCl (ws_X11_silence cI cJ cZ cA q_M q_M_refused q_M_talks q_M_hasB q_M_hasA q_M_now u_M_images u_M_kept u_M_text u_M_size u_M_sign u_M_manyAbove u_M_manyBelow u_M_above u_M_below u_M_at u_M_begin u_M_kind u_M_value u_M_read u_M_acts u_M_act u_M_waits u_M_wait u_M_held u_M_place u_M_heap u_M_clocks u_M_counts u_M_talking u_M_most u_M_big a_M_refused a_M_talks a_M_hasB a_M_hasA a_M_now) H) (hD : va_D A (ws_X11_silence cI cJ cZ cA q_M q_M_refused q_M_talks q_M_hasB q_M_hasA q_M_now u_M_images u_M_kept u_M_text u_M_size u_M_sign u_M_manyAbove u_M_manyBelow u_M_above u_M_below u_M_at u_M_begin u_M_kind u_M_value u_M_read u_M_acts u_M_act u_M_waits u_M_wait u_M_held u_M_place u_M_heap u_M_clocks u_M_counts u_M_talking u_M_most u_M_big a_M_refused a_M_talks a_M_hasB a_M_hasA a_M_now)) (hS : va_S A s.heap H locs), k44 x4 a_M_refused a_M_talks a_M_hasB a_M_hasA = some o → W p l e rm_X11_silence s m args below meth c H locs 0 0 Q (F0 m 44 ls [])) (k52 : Int32 → Int32 → (Nat → Int32) → (Nat → Int32) → (Nat → Int32) → (Nat → Int32) → Option (Int32 × (Nat → Int32) × (Nat → Int32) × (Nat → Int32) × (Nat → Int32))) (hk52 : ∀ (x4 : Int32) (x5 : Int32) (a_M_refused : Nat → Int32) (a_M_talks : Nat → Int32) (a_M_hasB : Nat → Int32) (a_M_hasA : Nat → Int32) (H : Heap) (locs : List Loc) (ls : Array Slot) (hl : lv_has ls 12 [(0, .ref q_M), (1, .int x1), (2, .int x2), (3, .int x3), (4, .int x4), (5, .int x5)]) (hP : va_P D vwCl (ws_X11_silence cI cJ cZ cA q_M q_M_refused q_M_talks q_M_hasB q_M_hasA q_M_now u_M_images u_M_kept u_M_text u_M_size u_M_sign u_M_manyAbove u_M_manyBelow u_M_above u_M_below u_M_at u_M_begin u_M_kind u_M_value u_M_read u_M_acts u_M_act u_M_waits u_M_wait u_M_held u_M_place u_M_heap u_M_clocks u_M_counts u_M_talking u_M_most u_M_big a_M_refused a_M_talks a_M_hasB a_M_hasA a_M_now) H) (hD : va_D A (ws_X11_silence cI cJ cZ cA q_M q_M_refused q_M_talks q_M_hasB q_M_hasA q_M_now u_M_images u_M_kept u_M_text u_M_size u_M_sign u_M_manyAbove u_M_manyBelow u_M_above u_M_below u_M_at u_M_begin u_M_kind u_M_value u_M_read u_M_acts u_M_act u_M_waits u_M_wait u_M_held u_M_place u_M_heap u_M_clocks u_M_counts u_M_talking u_M_most u_M_big a_M_refused a_M_talks a_M_hasB a_M_hasA a_M_now)) (hS : va_S A s.heap H locs), k52 x4 x5 a_M_refused a_M_talks a_M_hasB a_M_hasA = some o → W p l e rm_X11_silence s m args below meth c H locs 0 0 Q (F0 m 52 ls [])) (x4 : Int32) (x5 : Int32) (x6 : Int32) (x7 : Int32) (x8 : Int32) (x9 : Int32) (t0 : Int32) (a_M_refused : Nat → Int32) (a_M_talks : Nat → Int32) (a_M_hasB : Nat → Int32) (a_M_hasA : Nat → Int32) (H : Heap) (locs : List Loc) (ls : Array Slot) (hl : lv_has ls 12 [(0, .ref q_M), (1, .int x1), (2, .int x2), (3, .int x3), (4, .int x4), (5, .int x5), (6, .int x6), (7, .int x7), (8, .int x8), (9, .int x9)]) (hP : va_P D vwCl (ws_X11_silence cI cJ cZ cA q_M q_M_refused q_M_talks q_M_hasB q_M_hasA q_M_now u_M_images u_M_kept u_M_text u_M_size u_M_sign u_M_manyAbove u_M_manyBelow u_M_above u_M_below u_M_at u_M_begin u_M_kind u_M_value u_M_read u_M_acts u_M_act u_M_waits u_M_wait u_M_held u_M_place u_M_heap u_M_clocks u_M_counts u_M_talking u_M_most u_M_big a_M_refused a_M_talks a_M_hasB a_M_hasA a_M_now) H) (hD : va_D A (ws_X11_silence cI cJ cZ cA q_M q_M_refused q_M_talks q_M_hasB q_M_hasA q_M_now u_M_images u_M_kept u_M_text u_M_size u_M_sign u_M_manyAbove u_M_manyBelow u_M_above u_M_below u_M_at u_M_begin u_M_kind u_M_value u_M_read u_M_acts u_M_act u_M_waits u_M_wait u_M_held u_M_place u_M_heap u_M_clocks u_M_counts u_M_talking u_M_most u_M_big a_M_refused a_M_talks a_M_hasB a_M_hasA a_M_now)) (hS : va_S A s.heap H locs), g_X11_silence_197 a_M_now x1 x2 x3 k44 k52 x4 x5 x6 x7 x8 x9 t0 a_M_refused a_M_talks a_M_hasB a_M_hasA = some o → W p l e rm_X11_silence s m args below meth c H locs 0 0 Q (F0 m 197 ls [.int t0]) := by
    intro k44 hk44 k52 hk52 x4 x5 x6 x7 x8 x9 t0 a_M_refused a_M_talks a_M_hasB a_M_hasA H locs ls hl hP hD hS hg
    refine lv_istore (lv' := [(10, .int t0), (0, .ref q_M), (1, .int x1), (2, .int x2), (3, .int x3), (4, .int x4), (5, .int x5), (6, .int x6), (7, .int x7), (8, .int x8), (9, .int x9)]) hx hb dX11_silence_197 hl (by decide) rfl (fun ls hl => ?_)
    refine lv_iload hx hb dX11_silence_199 (lv_at hl 8 rfl) ?_
    refine lv_if_eq (tgt := 214) hx hb dX11_silence_201 (by decide) (fun h201 => ?_) (fun h201 => ?_)
    · have hg := zp hg h201
      refine lv_aload_n hx hb dX11_silence_214 rfl (lv_at hl 1 rfl) ?_
      refine zget (C := RX11) (T := TX11) (N := 31) S hK hP 0 rfl rfl 28 (Nat.le_of_ble_eq_true rfl) zf_11 zw_167 rfl dX11_silence_215 ?_
      refine lv_iload hx hb dX11_silence_218 (lv_at hl 10 rfl) ?_
      obtain ⟨h13, hg⟩ := zck hg
      refine ziald hx hb hK hP 3 0 rfl rfl (j := (x9.toNatClampNeg)) h13 rfl dX11_silence_220 ?_
      exact B221 k44 hk44 k52 hk52 x4 x5 x6 x7 x8 x9 t0 (a_M_hasB (x9.toNatClampNeg)) a_M_refused a_M_talks a_M_hasB a_M_hasA _ _ _ (lv_sub hl [1, 2, 3, 4, 5, 6, 7, 8, 9, 10, 0] rfl) hP hD hS hg
    · have hg := zn hg h201
      refine lv_aload_n hx hb dX11_silence_204 rfl (lv_at hl 1 rfl) ?_
      refine zget (C := RX11) (T := TX11) (N := 31) S hK hP 0 rfl rfl 27 (Nat.le_of_ble_eq_true rfl) zf_11 zw_166 rfl dX11_silence_205 ?_
      refine lv_iload hx hb dX11_silence_208 (lv_at hl 10 rfl) ?_
      obtain ⟨h23, hg⟩ := zck hg
      refine ziald hx hb hK hP 4 0 rfl rfl (j := (x9.toNatClampNeg)) h23 rfl dX11_silence_210 ?_
      refine lv_goto (tgt := 221) hx hb dX11_silence_211 (by decide) ?_
      exact B221 k44 hk44 k52 hk52 x4 x5 x6 x7 x8 x9 t0 (a_M_hasA (x9.toNatClampNeg)) a_M_refused a_M_talks a_M_hasB a_M_hasA _ _ _ (lv_sub hl [1, 2, 3, 4, 5, 6, 7, 8, 9, 10, 0] rfl) hP hD hS hg
  have B143 : ∀ (k44 : Int32 → (Nat → Int32) → (Nat → Int32) → (Nat → Int32) → (Nat → Int32) → Option (Int32 × (Nat → Int32) × (Nat → Int32) × (Nat → Int32) × (Nat → Int32))) (hk44 : ∀ (x4 : Int32) (a_M_refused : Nat → Int32) (a_M_talks : Nat → Int32) (a_M_hasB : Nat → Int32) (a_M_hasA : Nat → Int32) (H : Heap) (locs : List Loc) (ls : Array Slot) (hl : lv_has ls 12 [(0, .ref q_M), (1, .int x1), (2, .int x2), (3, .int x3), (4, .int x4)]) (hP : va_P D vwCl (ws_X11_silence cI cJ cZ cA q_M q_M_refused q_M_talks q_M_hasB q_M_hasA q_M_now u_M_images u_M_kept u_M_text u_M_size u_M_sign u_M_manyAbove u_M_manyBelow u_M_above u_M_below u_M_at u_M_begin u_M_kind u_M_value u_M_read u_M_acts u_M_act u_M_waits u_M_wait u_M_held u_M_place u_M_heap u_M_clocks u_M_counts u_M_talking u_M_most u_M_big a_M_refused a_M_talks a_M_hasB a_M_hasA a_M_now) H) (hD : va_D A (ws_X11_silence cI cJ cZ cA q_M q_M_refused q_M_talks q_M_hasB q_M_hasA q_M_now u_M_images u_M_kept u_M_text u_M_size u_M_sign u_M_manyAbove u_M_manyBelow u_M_above u_M_below u_M_at u_M_begin u_M_kind u_M_value u_M_read u_M_acts u_M_act u_M_waits u_M_wait u_M_held u_M_place u_M_heap u_M_clocks u_M_counts u_M_talking u_M_most u_M_big a_M_refused a_M_talks a_M_hasB a_M_hasA a_M_now)) (hS : va_S A s.heap H locs), k44 x4 a_M_refused a_M_talks a_M_hasB a_M_hasA = some o → W p l e rm_X11_silence s m args below meth c H locs 0 0 Q (F0 m 44 ls [])) (k52 : Int32 → Int32 → (Nat → Int32) → (Nat → Int32) → (Nat → Int32) → (Nat → Int32) → Option (Int32 × (Nat → Int32) × (Nat → Int32) × (Nat → Int32) × (Nat → Int32))) (hk52 : ∀ (x4 : Int32) (x5 : Int32) (a_M_refused : Nat → Int32) (a_M_talks : Nat → Int32) (a_M_hasB : Nat → Int32) (a_M_hasA : Nat → Int32) (H : Heap) (locs : List Loc) (ls : Array Slot) (hl : lv_has ls 12 [(0, .ref q_M), (1, .int x1), (2, .int x2), (3, .int x3), (4, .int x4), (5, .int x5)]) (hP : va_P D vwCl (ws_X11_silence cI cJ cZ cA q_M q_M_refused q_M_talks q_M_hasB q_M_hasA q_M_now u_M_images u_M_kept u_M_text u_M_size u_M_sign u_M_manyAbove u_M_manyBelow u_M_above u_M_below u_M_at u_M_begin u_M_kind u_M_value u_M_read u_M_acts u_M_act u_M_waits u_M_wait u_M_held u_M_place u_M_heap u_M_clocks u_M_counts u_M_talking u_M_most u_M_big a_M_refused a_M_talks a_M_hasB a_M_hasA a_M_now) H) (hD : va_D A (ws_X11_silence cI cJ cZ cA q_M q_M_refused q_M_talks q_M_hasB q_M_hasA q_M_now u_M_images u_M_kept u_M_text u_M_size u_M_sign u_M_manyAbove u_M_manyBelow u_M_above u_M_below u_M_at u_M_begin u_M_kind u_M_value u_M_read u_M_acts u_M_act u_M_waits u_M_wait u_M_held u_M_place u_M_heap u_M_clocks u_M_counts u_M_talking u_M_most u_M_big a_M_refused a_M_talks a_M_hasB a_M_hasA a_M_now)) (hS : va_S A s.heap H locs), k52 x4 x5 a_M_refused a_M_talks a_M_hasB a_M_hasA = some o → W p l e rm_X11_silence s m args below meth c H locs 0 0 Q (F0 m 52 ls [])) (x4 : Int32) (x5 : Int32) (x6 : Int32) (t0 : Int32) (a_M_refused : Nat → Int32) (a_M_talks : Nat → Int32) (a_M_hasB : Nat → Int32) (a_M_hasA : Nat → Int32) (H : Heap) (locs : List Loc) (ls : Array Slot) (hl : lv_has ls 12 [(0, .ref q_M), (1, .int x1), (2, .int x2), (3, .int x3), (4, .int x4), (5, .int x5), (6, .int x6)]) (hP : va_P D vwCl (ws_X11_silence cI cJ cZ cA q_M q_M_refused q_M_talks q_M_hasB q_M_hasA q_M_now u_M_images u_M_kept u_M_text u_M_size u_M_sign u_M_manyAbove u_M_manyBelow u_M_above u_M_below u_M_at u_M_begin u_M_kind u_M_value u_M_read u_M_acts u_M_act u_M_waits u_M_wait u_M_held u_M_place u_M_heap u_M_clocks u_M_counts u_M_talking u_M_most u_M_big a_M_refused a_M_talks a_M_hasB a_M_hasA a_M_now) H) (hD : va_D A (ws_X11_silence cI cJ cZ cA q_M q_M_refused q_M_talks q_M_hasB q_M_hasA q_M_now u_M_images u_M_kept u_M_text u_M_size u_M_sign u_M_manyAbove u_M_manyBelow u_M_above u_M_below u_M_at u_M_begin u_M_kind u_M_value u_M_read u_M_acts u_M_act u_M_waits u_M_wait u_M_held u_M_place u_M_heap u_M_clocks u_M_counts u_M_talking u_M_most u_M_big a_M_refused a_M_talks a_M_hasB a_M_hasA a_M_now)) (hS : va_S A s.heap H locs), g_X11_silence_143 a_M_now x1 x2 x3 k44 k52 x4 x5 x6 t0 a_M_refused a_M_talks a_M_hasB a_M_hasA = some o → W p l e rm_X11_silence s m args below meth c H locs 0 0 Q (F0 m 143 ls [.int t0]) := by
    intro k44 hk44 k52 hk52 x4 x5 x6 t0 a_M_refused a_M_talks a_M_hasB a_M_hasA H locs ls hl hP hD hS hg
    refine lv_istore (lv' := [(7, .int t0), (0, .ref q_M), (1, .int x1), (2, .int x2), (3, .int x3), (4, .int x4), (5, .int x5), (6, .int x6)]) hx hb dX11_silence_143 hl (by decide) rfl (fun ls hl => ?_)
    refine lv_iload hx hb dX11_silence_145 (lv_at hl 7 rfl) ?_
    refine lv_bipush (v := 21) hx hb dX11_silence_147 (by decide) ?_
    refine lv_iadd hx hb dX11_silence_149 ?_
    refine lv_istore (lv' := [(8, .int (x6 + 21)), (7, .int t0), (0, .ref q_M), (1, .int x1), (2, .int x2), (3, .int x3), (4, .int x4), (5, .int x5), (6, .int x6)]) hx hb dX11_silence_150 hl (by decide) rfl (fun ls hl => ?_)
    refine lv_iload hx hb dX11_silence_152 (lv_at hl 8 rfl) ?_
    refine lv_bipush (v := 22) hx hb dX11_silence_154 (by decide) ?_
    refine lv_iadd hx hb dX11_silence_156 ?_
    refine lv_istore (lv' := [(9, .int (x6 + 22)), (8, .int (x6 + 21)), (7, .int t0), (0, .ref q_M), (1, .int x1), (2, .int x2), (3, .int x3), (4, .int x4), (5, .int x5), (6, .int x6)]) hx hb dX11_silence_157 hl (by decide) rfl (fun ls hl => ?_)
    refine lv_iload hx hb dX11_silence_159 (lv_at hl 2 rfl) ?_
    refine lv_if_eq (tgt := 182) hx hb dX11_silence_161 (by decide) (fun h161 => ?_) (fun h161 => ?_)
    · have hg := zp hg h161
      refine lv_aload_n hx hb dX11_silence_182 rfl (lv_at hl 3 rfl) ?_
      refine zget (C := RX11) (T := TX11) (N := 31) S hK hP 0 rfl rfl 28 (Nat.le_of_ble_eq_true rfl) zf_11 zw_167 rfl dX11_silence_183 ?_
      refine lv_iload hx hb dX11_silence_186 (lv_at hl 1 rfl) ?_
      obtain ⟨h12, hg⟩ := zck hg
      refine ziald hx hb hK hP 3 0 rfl rfl (j := ((x6 + 21).toNatClampNeg)) h12 rfl dX11_silence_188 ?_
      refine lv_aload_n hx hb dX11_silence_189 rfl (lv_at hl 3 rfl) ?_
      refine zget (C := RX11) (T := TX11) (N := 31) S hK hP 0 rfl rfl 0 (Nat.le_of_ble_eq_true rfl) zf_11 zw_149 rfl dX11_silence_190 ?_
      refine lv_bipush (v := 9) hx hb dX11_silence_193 (by decide) ?_
      refine ziald hx hb hK hP 5 0 rfl rfl (j := 9) (zin (by decide)) (by decide) dX11_silence_195 ?_
      refine lv_isub hx hb dX11_silence_196 ?_
      exact B197 k44 hk44 k52 hk52 x4 x5 x6 t0 (x6 + 21) (x6 + 22) ((a_M_hasB ((x6 + 21).toNatClampNeg)) - (a_M_now 9)) a_M_refused a_M_talks a_M_hasB a_M_hasA _ _ _ (lv_sub hl [3, 4, 5, 6, 7, 8, 9, 2, 1, 0] rfl) hP hD hS hg
    · have hg := zn hg h161
      refine lv_aload_n hx hb dX11_silence_164 rfl (lv_at hl 3 rfl) ?_
      refine zget (C := RX11) (T := TX11) (N := 31) S hK hP 0 rfl rfl 27 (Nat.le_of_ble_eq_true rfl) zf_11 zw_166 rfl dX11_silence_165 ?_
      refine lv_iload hx hb dX11_silence_168 (lv_at hl 1 rfl) ?_
      obtain ⟨h24, hg⟩ := zck hg
      refine ziald hx hb hK hP 4 0 rfl rfl (j := ((x6 + 21).toNatClampNeg)) h24 rfl dX11_silence_170 ?_
      refine lv_aload_n hx hb dX11_silence_171 rfl (lv_at hl 3 rfl) ?_
      refine zget (C := RX11) (T := TX11) (N := 31) S hK hP 0 rfl rfl 0 (Nat.le_of_ble_eq_true rfl) zf_11 zw_149 rfl dX11_silence_172 ?_
      refine lv_bipush (v := 8) hx hb dX11_silence_175 (by decide) ?_
      refine ziald hx hb hK hP 5 0 rfl rfl (j := 8) (zin (by decide)) (by decide) dX11_silence_177 ?_
      refine lv_isub hx hb dX11_silence_178 ?_
      refine lv_goto (tgt := 197) hx hb dX11_silence_179 (by decide) ?_
      exact B197 k44 hk44 k52 hk52 x4 x5 x6 t0 (x6 + 21) (x6 + 22) ((a_M_hasA ((x6 + 21).toNatClampNeg)) - (a_M_now 8)) a_M_refused a_M_talks a_M_hasB a_M_hasA _ _ _ (lv_sub hl [3, 4, 5, 6, 7, 8, 9, 2, 1, 0] rfl) hP hD hS hg
  have B115 : ∀ (k44 : Int32 → (Nat → Int32) → (Nat → Int32) → (Nat → Int32) → (Nat → Int32) → Option (Int32 × (Nat → Int32) × (Nat → Int32) × (Nat → Int32) × (Nat → Int32))) (hk44 : ∀ (x4 : Int32) (a_M_refused : Nat → Int32) (a_M_talks : Nat → Int32) (a_M_hasB : Nat → Int32) (a_M_hasA : Nat → Int32) (H : Heap) (locs : List Loc) (ls : Array Slot) (hl : lv_has ls 12 [(0, .ref q_M), (1, .int x1), (2, .int x2), (3, .int x3), (4, .int x4)]) (hP : va_P D vwCl (ws_X11_silence cI cJ cZ cA q_M q_M_refused q_M_talks q_M_hasB q_M_hasA q_M_now u_M_images u_M_kept u_M_text u_M_size u_M_sign u_M_manyAbove u_M_manyBelow u_M_above u_M_below u_M_at u_M_begin u_M_kind u_M_value u_M_read u_M_acts u_M_act u_M_waits u_M_wait u_M_held u_M_place u_M_heap u_M_clocks u_M_counts u_M_talking u_M_most u_M_big a_M_refused a_M_talks a_M_hasB a_M_hasA a_M_now) H) (hD : va_D A (ws_X11_silence cI cJ cZ cA q_M q_M_refused q_M_talks q_M_hasB q_M_hasA q_M_now u_M_images u_M_kept u_M_text u_M_size u_M_sign u_M_manyAbove u_M_manyBelow u_M_above u_M_below u_M_at u_M_begin u_M_kind u_M_value u_M_read u_M_acts u_M_act u_M_waits u_M_wait u_M_held u_M_place u_M_heap u_M_clocks u_M_counts u_M_talking u_M_most u_M_big a_M_refused a_M_talks a_M_hasB a_M_hasA a_M_now)) (hS : va_S A s.heap H locs), k44 x4 a_M_refused a_M_talks a_M_hasB a_M_hasA = some o → W p l e rm_X11_silence s m args below meth c H locs 0 0 Q (F0 m 44 ls [])) (k52 : Int32 → Int32 → (Nat → Int32) → (Nat → Int32) → (Nat → Int32) → (Nat → Int32) → Option (Int32 × (Nat → Int32) × (Nat → Int32) × (Nat → Int32) × (Nat → Int32))) (hk52 : ∀ (x4 : Int32) (x5 : Int32) (a_M_refused : Nat → Int32) (a_M_talks : Nat → Int32) (a_M_hasB : Nat → Int32) (a_M_hasA : Nat → Int32) (H : Heap) (locs : List Loc) (ls : Array Slot) (hl : lv_has ls 12 [(0, .ref q_M), (1, .int x1), (2, .int x2), (3, .int x3), (4, .int x4), (5, .int x5)]) (hP : va_P D vwCl (ws_X11_silence cI cJ cZ cA q_M q_M_refused q_M_talks q_M_hasB q_M_hasA q_M_now u_M_images u_M_kept u_M_text u_M_size u_M_sign u_M_manyAbove u_M_manyBelow u_M_above u_M_below u_M_at u_M_begin u_M_kind u_M_value u_M_read u_M_acts u_M_act u_M_waits u_M_wait u_M_held u_M_place u_M_heap u_M_clocks u_M_counts u_M_talking u_M_most u_M_big a_M_refused a_M_talks a_M_hasB a_M_hasA a_M_now) H) (hD : va_D A (ws_X11_silence cI cJ cZ cA q_M q_M_refused q_M_talks q_M_hasB q_M_hasA q_M_now u_M_images u_M_kept u_M_text u_M_size u_M_sign u_M_manyAbove u_M_manyBelow u_M_above u_M_below u_M_at u_M_begin u_M_kind u_M_value u_M_read u_M_acts u_M_act u_M_waits u_M_wait u_M_held u_M_place u_M_heap u_M_clocks u_M_counts u_M_talking u_M_most u_M_big a_M_refused a_M_talks a_M_hasB a_M_hasA a_M_now)) (hS : va_S A s.heap H locs), k52 x4 x5 a_M_refused a_M_talks a_M_hasB a_M_hasA = some o → W p l e rm_X11_silence s m args below meth c H locs 0 0 Q (F0 m 52 ls [])) (x4 : Int32) (x5 : Int32) (x6 : Int32) (t1 : Int32) (t2 : Int32) (a_M_refused : Nat → Int32) (a_M_talks : Nat → Int32) (a_M_hasB : Nat → Int32) (a_M_hasA : Nat → Int32) (H : Heap) (locs : List Loc) (ls : Array Slot) (hl : lv_has ls 12 [(0, .ref q_M), (1, .int x1), (2, .int x2), (3, .int x3), (4, .int x4), (5, .int x5), (6, .int x6)]) (hP : va_P D vwCl (ws_X11_silence cI cJ cZ cA q_M q_M_refused q_M_talks q_M_hasB q_M_hasA q_M_now u_M_images u_M_kept u_M_text u_M_size u_M_sign u_M_manyAbove u_M_manyBelow u_M_above u_M_below u_M_at u_M_begin u_M_kind u_M_value u_M_read u_M_acts u_M_act u_M_waits u_M_wait u_M_held u_M_place u_M_heap u_M_clocks u_M_counts u_M_talking u_M_most u_M_big a_M_refused a_M_talks a_M_hasB a_M_hasA a_M_now) H) (hD : va_D A (ws_X11_silence cI cJ cZ cA q_M q_M_refused q_M_talks q_M_hasB q_M_hasA q_M_now u_M_images u_M_kept u_M_text u_M_size u_M_sign u_M_manyAbove u_M_manyBelow u_M_above u_M_below u_M_at u_M_begin u_M_kind u_M_value u_M_read u_M_acts u_M_act u_M_waits u_M_wait u_M_held u_M_place u_M_heap u_M_clocks u_M_counts u_M_talking u_M_most u_M_big a_M_refused a_M_talks a_M_hasB a_M_hasA a_M_now)) (hS : va_S A s.heap H locs), g_X11_silence_115 a_M_now x1 x2 x3 k44 k52 x4 x5 x6 t1 t2 a_M_refused a_M_talks a_M_hasB a_M_hasA = some o → W p l e rm_X11_silence s m args below meth c H locs 0 0 Q (F0 m 115 ls [.int t2, .int t1, .ref q_M_hasB]) := by
    intro k44 hk44 k52 hk52 x4 x5 x6 t1 t2 a_M_refused a_M_talks a_M_hasB a_M_hasA H locs ls hl hP hD hS hg
    obtain ⟨h11, hg⟩ := zck hg
    refine ziast hx hb hK hP hD hS 3 0 rfl rfl (j := (t1.toNatClampNeg)) h11 rfl dX11_silence_115 (w2 := (ws_X11_silence cI cJ cZ cA q_M q_M_refused q_M_talks q_M_hasB q_M_hasA q_M_now u_M_images u_M_kept u_M_text u_M_size u_M_sign u_M_manyAbove u_M_manyBelow u_M_above u_M_below u_M_at u_M_begin u_M_kind u_M_value u_M_read u_M_acts u_M_act u_M_waits u_M_wait u_M_held u_M_place u_M_heap u_M_clocks u_M_counts u_M_talking u_M_most u_M_big a_M_refused a_M_talks (upd a_M_hasB (t1.toNatClampNeg) t2) a_M_hasA a_M_now)) rfl (fun H locs hP hD hS => ?_)
    refine lv_iload hx hb dX11_silence_116 (lv_at hl 5 rfl) ?_
    refine lv_iload_n hx hb dX11_silence_118 rfl (lv_at hl 2 rfl) ?_
    refine lv_icmp_eq (tgt := 368) hx hb dX11_silence_119 (by decide) (fun h119 => ?_) (fun h119 => ?_)
    · have hg := zp hg h119
      exact B368 k44 hk44 k52 hk52 x4 x5 a_M_refused a_M_talks (upd a_M_hasB (t1.toNatClampNeg) t2) a_M_hasA _ _ _ (lv_sub hl [0, 1, 2, 3, 4, 5] rfl) hP hD hS hg
    · have hg := zn hg h119
      refine lv_iload hx hb dX11_silence_122 (lv_at hl 4 rfl) ?_
      refine lv_iload_n hx hb dX11_silence_124 rfl (lv_at hl 1 rfl) ?_
      refine lv_icmp_ne (tgt := 131) hx hb dX11_silence_125 (by decide) (fun h125 => ?_) (fun h125 => ?_)
      · have hg := zn hg h125
        refine lv_iload hx hb dX11_silence_131 (lv_at hl 4 rfl) ?_
        refine lv_iconst (v := 2) hx hb dX11_silence_133 (by decide) ?_
        refine lv_irem hx hb dX11_silence_134 (by decide) ?_
        refine lv_if_ne (tgt := 142) hx hb dX11_silence_135 (by decide) (fun h135 => ?_) (fun h135 => ?_)
        · have hg := zn hg h135
          refine lv_iconst (v := 0) hx hb dX11_silence_142 (by decide) ?_
          exact B143 k44 hk44 k52 hk52 x4 x5 x6 0 a_M_refused a_M_talks (upd a_M_hasB (t1.toNatClampNeg) t2) a_M_hasA _ _ _ hl hP hD hS hg
        · have hg := zp hg h135
          refine lv_iconst (v := 1) hx hb dX11_silence_138 (by decide) ?_
          refine lv_goto (tgt := 143) hx hb dX11_silence_139 (by decide) ?_
          exact B143 k44 hk44 k52 hk52 x4 x5 x6 1 a_M_refused a_M_talks (upd a_M_hasB (t1.toNatClampNeg) t2) a_M_hasA _ _ _ hl hP hD hS hg
      · have hg := zp hg h125
        refine lv_goto (tgt := 368) hx hb dX11_silence_128 (by decide) ?_
        exact B368 k44 hk44 k52 hk52 x4 x5 a_M_refused a_M_talks (upd a_M_hasB (t1.toNatClampNeg) t2) a_M_hasA _ _ _ (lv_sub hl [0, 1, 2, 3, 4, 5] rfl) hP hD hS hg
  have B91 : ∀ (k44 : Int32 → (Nat → Int32) → (Nat → Int32) → (Nat → Int32) → (Nat → Int32) → Option (Int32 × (Nat → Int32) × (Nat → Int32) × (Nat → Int32) × (Nat → Int32))) (hk44 : ∀ (x4 : Int32) (a_M_refused : Nat → Int32) (a_M_talks : Nat → Int32) (a_M_hasB : Nat → Int32) (a_M_hasA : Nat → Int32) (H : Heap) (locs : List Loc) (ls : Array Slot) (hl : lv_has ls 12 [(0, .ref q_M), (1, .int x1), (2, .int x2), (3, .int x3), (4, .int x4)]) (hP : va_P D vwCl (ws_X11_silence cI cJ cZ cA q_M q_M_refused q_M_talks q_M_hasB q_M_hasA q_M_now u_M_images u_M_kept u_M_text u_M_size u_M_sign u_M_manyAbove u_M_manyBelow u_M_above u_M_below u_M_at u_M_begin u_M_kind u_M_value u_M_read u_M_acts u_M_act u_M_waits u_M_wait u_M_held u_M_place u_M_heap u_M_clocks u_M_counts u_M_talking u_M_most u_M_big a_M_refused a_M_talks a_M_hasB a_M_hasA a_M_now) H) (hD : va_D A (ws_X11_silence cI cJ cZ cA q_M q_M_refused q_M_talks q_M_hasB q_M_hasA q_M_now u_M_images u_M_kept u_M_text u_M_size u_M_sign u_M_manyAbove u_M_manyBelow u_M_above u_M_below u_M_at u_M_begin u_M_kind u_M_value u_M_read u_M_acts u_M_act u_M_waits u_M_wait u_M_held u_M_place u_M_heap u_M_clocks u_M_counts u_M_talking u_M_most u_M_big a_M_refused a_M_talks a_M_hasB a_M_hasA a_M_now)) (hS : va_S A s.heap H locs), k44 x4 a_M_refused a_M_talks a_M_hasB a_M_hasA = some o → W p l e rm_X11_silence s m args below meth c H locs 0 0 Q (F0 m 44 ls [])) (k52 : Int32 → Int32 → (Nat → Int32) → (Nat → Int32) → (Nat → Int32) → (Nat → Int32) → Option (Int32 × (Nat → Int32) × (Nat → Int32) × (Nat → Int32) × (Nat → Int32))) (hk52 : ∀ (x4 : Int32) (x5 : Int32) (a_M_refused : Nat → Int32) (a_M_talks : Nat → Int32) (a_M_hasB : Nat → Int32) (a_M_hasA : Nat → Int32) (H : Heap) (locs : List Loc) (ls : Array Slot) (hl : lv_has ls 12 [(0, .ref q_M), (1, .int x1), (2, .int x2), (3, .int x3), (4, .int x4), (5, .int x5)]) (hP : va_P D vwCl (ws_X11_silence cI cJ cZ cA q_M q_M_refused q_M_talks q_M_hasB q_M_hasA q_M_now u_M_images u_M_kept u_M_text u_M_size u_M_sign u_M_manyAbove u_M_manyBelow u_M_above u_M_below u_M_at u_M_begin u_M_kind u_M_value u_M_read u_M_acts u_M_act u_M_waits u_M_wait u_M_held u_M_place u_M_heap u_M_clocks u_M_counts u_M_talking u_M_most u_M_big a_M_refused a_M_talks a_M_hasB a_M_hasA a_M_now) H) (hD : va_D A (ws_X11_silence cI cJ cZ cA q_M q_M_refused q_M_talks q_M_hasB q_M_hasA q_M_now u_M_images u_M_kept u_M_text u_M_size u_M_sign u_M_manyAbove u_M_manyBelow u_M_above u_M_below u_M_at u_M_begin u_M_kind u_M_value u_M_read u_M_acts u_M_act u_M_waits u_M_wait u_M_held u_M_place u_M_heap u_M_clocks u_M_counts u_M_talking u_M_most u_M_big a_M_refused a_M_talks a_M_hasB a_M_hasA a_M_now)) (hS : va_S A s.heap H locs), k52 x4 x5 a_M_refused a_M_talks a_M_hasB a_M_hasA = some o → W p l e rm_X11_silence s m args below meth c H locs 0 0 Q (F0 m 52 ls [])) (x4 : Int32) (x5 : Int32) (x6 : Int32) (t1 : Int32) (t2 : Int32) (a_M_refused : Nat → Int32) (a_M_talks : Nat → Int32) (a_M_hasB : Nat → Int32) (a_M_hasA : Nat → Int32) (H : Heap) (locs : List Loc) (ls : Array Slot) (hl : lv_has ls 12 [(0, .ref q_M), (1, .int x1), (2, .int x2), (3, .int x3), (4, .int x4), (5, .int x5), (6, .int x6)]) (hP : va_P D vwCl (ws_X11_silence cI cJ cZ cA q_M q_M_refused q_M_talks q_M_hasB q_M_hasA q_M_now u_M_images u_M_kept u_M_text u_M_size u_M_sign u_M_manyAbove u_M_manyBelow u_M_above u_M_below u_M_at u_M_begin u_M_kind u_M_value u_M_read u_M_acts u_M_act u_M_waits u_M_wait u_M_held u_M_place u_M_heap u_M_clocks u_M_counts u_M_talking u_M_most u_M_big a_M_refused a_M_talks a_M_hasB a_M_hasA a_M_now) H) (hD : va_D A (ws_X11_silence cI cJ cZ cA q_M q_M_refused q_M_talks q_M_hasB q_M_hasA q_M_now u_M_images u_M_kept u_M_text u_M_size u_M_sign u_M_manyAbove u_M_manyBelow u_M_above u_M_below u_M_at u_M_begin u_M_kind u_M_value u_M_read u_M_acts u_M_act u_M_waits u_M_wait u_M_held u_M_place u_M_heap u_M_clocks u_M_counts u_M_talking u_M_most u_M_big a_M_refused a_M_talks a_M_hasB a_M_hasA a_M_now)) (hS : va_S A s.heap H locs), g_X11_silence_91 a_M_now x1 x2 x3 k44 k52 x4 x5 x6 t1 t2 a_M_refused a_M_talks a_M_hasB a_M_hasA = some o → W p l e rm_X11_silence s m args below meth c H locs 0 0 Q (F0 m 91 ls [.int t2, .int t1, .ref q_M_hasA]) := by
    intro k44 hk44 k52 hk52 x4 x5 x6 t1 t2 a_M_refused a_M_talks a_M_hasB a_M_hasA H locs ls hl hP hD hS hg
    obtain ⟨h10, hg⟩ := zck hg
    refine ziast hx hb hK hP hD hS 4 0 rfl rfl (j := (t1.toNatClampNeg)) h10 rfl dX11_silence_91 (w2 := (ws_X11_silence cI cJ cZ cA q_M q_M_refused q_M_talks q_M_hasB q_M_hasA q_M_now u_M_images u_M_kept u_M_text u_M_size u_M_sign u_M_manyAbove u_M_manyBelow u_M_above u_M_below u_M_at u_M_begin u_M_kind u_M_value u_M_read u_M_acts u_M_act u_M_waits u_M_wait u_M_held u_M_place u_M_heap u_M_clocks u_M_counts u_M_talking u_M_most u_M_big a_M_refused a_M_talks a_M_hasB (upd a_M_hasA (t1.toNatClampNeg) t2) a_M_now)) rfl (fun H locs hP hD hS => ?_)
    refine lv_aload_n hx hb dX11_silence_92 rfl (lv_at hl 0 rfl) ?_
    refine zget (C := RX11) (T := TX11) (N := 31) S hK hP 0 rfl rfl 28 (Nat.le_of_ble_eq_true rfl) zf_11 zw_167 rfl dX11_silence_93 ?_
    refine lv_iload hx hb dX11_silence_96 (lv_at hl 6 rfl) ?_
    refine lv_iload hx hb dX11_silence_98 (lv_at hl 5 rfl) ?_
    refine lv_iload_n hx hb dX11_silence_100 rfl (lv_at hl 2 rfl) ?_
    refine lv_icmp_ne (tgt := 114) hx hb dX11_silence_101 (by decide) (fun h101 => ?_) (fun h101 => ?_)
    · have hg := zn hg h101
      refine lv_iconst (v := 0) hx hb dX11_silence_114 (by decide) ?_
      exact B115 k44 hk44 k52 hk52 x4 x5 x6 x6 0 a_M_refused a_M_talks a_M_hasB (upd a_M_hasA (t1.toNatClampNeg) t2) _ _ _ hl hP hD hS hg
    · have hg := zp hg h101
      refine lv_aload_n hx hb dX11_silence_104 rfl (lv_at hl 0 rfl) ?_
      refine zget (C := RX11) (T := TX11) (N := 31) S hK hP 0 rfl rfl 0 (Nat.le_of_ble_eq_true rfl) zf_11 zw_149 rfl dX11_silence_105 ?_
      refine lv_bipush (v := 11) hx hb dX11_silence_108 (by decide) ?_
      refine ziald hx hb hK hP 5 0 rfl rfl (j := 11) (zin (by decide)) (by decide) dX11_silence_110 ?_
      refine lv_goto (tgt := 115) hx hb dX11_silence_111 (by decide) ?_
      exact B115 k44 hk44 k52 hk52 x4 x5 x6 x6 (a_M_now 11) a_M_refused a_M_talks a_M_hasB (upd a_M_hasA (t1.toNatClampNeg) t2) _ _ _ hl hP hD hS hg
  have B52 : ∀ (k44 : Int32 → (Nat → Int32) → (Nat → Int32) → (Nat → Int32) → (Nat → Int32) → Option (Int32 × (Nat → Int32) × (Nat → Int32) × (Nat → Int32) × (Nat → Int32))) (hk44 : ∀ (x4 : Int32) (a_M_refused : Nat → Int32) (a_M_talks : Nat → Int32) (a_M_hasB : Nat → Int32) (a_M_hasA : Nat → Int32) (H : Heap) (locs : List Loc) (ls : Array Slot) (hl : lv_has ls 12 [(0, .ref q_M), (1, .int x1), (2, .int x2), (3, .int x3), (4, .int x4)]) (hP : va_P D vwCl (ws_X11_silence cI cJ cZ cA q_M q_M_refused q_M_talks q_M_hasB q_M_hasA q_M_now u_M_images u_M_kept u_M_text u_M_size u_M_sign u_M_manyAbove u_M_manyBelow u_M_above u_M_below u_M_at u_M_begin u_M_kind u_M_value u_M_read u_M_acts u_M_act u_M_waits u_M_wait u_M_held u_M_place u_M_heap u_M_clocks u_M_counts u_M_talking u_M_most u_M_big a_M_refused a_M_talks a_M_hasB a_M_hasA a_M_now) H) (hD : va_D A (ws_X11_silence cI cJ cZ cA q_M q_M_refused q_M_talks q_M_hasB q_M_hasA q_M_now u_M_images u_M_kept u_M_text u_M_size u_M_sign u_M_manyAbove u_M_manyBelow u_M_above u_M_below u_M_at u_M_begin u_M_kind u_M_value u_M_read u_M_acts u_M_act u_M_waits u_M_wait u_M_held u_M_place u_M_heap u_M_clocks u_M_counts u_M_talking u_M_most u_M_big a_M_refused a_M_talks a_M_hasB a_M_hasA a_M_now)) (hS : va_S A s.heap H locs), k44 x4 a_M_refused a_M_talks a_M_hasB a_M_hasA = some o → W p l e rm_X11_silence s m args below meth c H locs 0 0 Q (F0 m 44 ls []))  (n : Nat) (x4 : Int32) (x5 : Int32) (a_M_refused : Nat → Int32) (a_M_talks : Nat → Int32) (a_M_hasB : Nat → Int32) (a_M_hasA : Nat → Int32) (H : Heap) (locs : List Loc) (ls : Array Slot) (hl : lv_has ls 12 [(0, .ref q_M), (1, .int x1), (2, .int x2), (3, .int x3), (4, .int x4), (5, .int x5)]) (hP : va_P D vwCl (ws_X11_silence cI cJ cZ cA q_M q_M_refused q_M_talks q_M_hasB q_M_hasA q_M_now u_M_images u_M_kept u_M_text u_M_size u_M_sign u_M_manyAbove u_M_manyBelow u_M_above u_M_below u_M_at u_M_begin u_M_kind u_M_value u_M_read u_M_acts u_M_act u_M_waits u_M_wait u_M_held u_M_place u_M_heap u_M_clocks u_M_counts u_M_talking u_M_most u_M_big a_M_refused a_M_talks a_M_hasB a_M_hasA a_M_now) H) (hD : va_D A (ws_X11_silence cI cJ cZ cA q_M q_M_refused q_M_talks q_M_hasB q_M_hasA q_M_now u_M_images u_M_kept u_M_text u_M_size u_M_sign u_M_manyAbove u_M_manyBelow u_M_above u_M_below u_M_at u_M_begin u_M_kind u_M_value u_M_read u_M_acts u_M_act u_M_waits u_M_wait u_M_held u_M_place u_M_heap u_M_clocks u_M_counts u_M_talking u_M_most u_M_big a_M_refused a_M_talks a_M_hasB a_M_hasA a_M_now)) (hS : va_S A s.heap H locs), g_X11_silence_52 a_M_now x1 x2 x3 k44 n x4 x5 a_M_refused a_M_talks a_M_hasB a_M_hasA = some o → W p l e rm_X11_silence s m args below meth c H locs 0 0 Q (F0 m 52 ls []) := by
    intro k44 hk44 n
    induction n with
    | zero => intro x4 x5 a_M_refused a_M_talks a_M_hasB a_M_hasA H locs ls hl hP hD hS hg; exact nomatch (show (none : Option (Int32 × (Nat → Int32) × (Nat → Int32) × (Nat → Int32) × (Nat → Int32))) = some o from hg)
    | succ n ih =>
      intro x4 x5 a_M_refused a_M_talks a_M_hasB a_M_hasA H locs ls hl hP hD hS hg
      have hg : g_X11_silence_52b a_M_now x1 x2 x3 k44 (g_X11_silence_52 a_M_now x1 x2 x3 k44 n) x4 x5 a_M_refused a_M_talks a_M_hasB a_M_hasA = some o := hg
      refine lv_iload hx hb dX11_silence_52 (lv_at hl 5 rfl) ?_
      refine lv_iload_n hx hb dX11_silence_54 rfl (lv_at hl 2 rfl) ?_
      refine lv_icmp_gt (tgt := 374) hx hb dX11_silence_55 (by decide) (fun h55 => ?_) (fun h55 => ?_)
      · have hg := zp hg h55
        refine lv_iinc (k := 4) (v := x4 + (-1)) (lv' := [(4, .int (x4 + (-1))), (0, .ref q_M), (1, .int x1), (2, .int x2), (3, .int x3), (5, .int x5)]) hx hb dX11_silence_374 hl rfl (zinc (by decide)) (by decide) rfl (fun ls hl => ?_)
        refine lv_goto (tgt := 44) hx hb dX11_silence_377 (by decide) ?_
        exact hk44 (x4 + (-1)) a_M_refused a_M_talks a_M_hasB a_M_hasA _ _ _ (lv_sub hl [1, 2, 3, 4, 0] rfl) hP hD hS hg
      · have hg := zn hg h55
        refine lv_bipush (v := 21) hx hb dX11_silence_58 (by decide) ?_
        refine lv_iload hx hb dX11_silence_60 (lv_at hl 4 rfl) ?_
        refine lv_imul hx hb dX11_silence_62 ?_
        refine lv_iload hx hb dX11_silence_63 (lv_at hl 5 rfl) ?_
        refine lv_iadd hx hb dX11_silence_65 ?_
        refine lv_istore (lv' := [(6, .int ((21 * x4) + x5)), (0, .ref q_M), (1, .int x1), (2, .int x2), (3, .int x3), (4, .int x4), (5, .int x5)]) hx hb dX11_silence_66 hl (by decide) rfl (fun ls hl => ?_)
        refine lv_aload_n hx hb dX11_silence_68 rfl (lv_at hl 1 rfl) ?_
        refine zget (C := RX11) (T := TX11) (N := 31) S hK hP 0 rfl rfl 27 (Nat.le_of_ble_eq_true rfl) zf_11 zw_166 rfl dX11_silence_69 ?_
        refine lv_iload hx hb dX11_silence_72 (lv_at hl 0 rfl) ?_
        refine lv_iload hx hb dX11_silence_74 (lv_at hl 6 rfl) ?_
        refine lv_iload_n hx hb dX11_silence_76 rfl (lv_at hl 3 rfl) ?_
        refine lv_icmp_ne (tgt := 90) hx hb dX11_silence_77 (by decide) (fun h77 => ?_) (fun h77 => ?_)
        · have hg := zn hg h77
          refine lv_iconst (v := 0) hx hb dX11_silence_90 (by decide) ?_
          exact B91 k44 hk44 (g_X11_silence_52 a_M_now x1 x2 x3 k44 n) ih x4 x5 ((21 * x4) + x5) ((21 * x4) + x5) 0 a_M_refused a_M_talks a_M_hasB a_M_hasA _ _ _ (lv_sub hl [1, 2, 3, 4, 5, 6, 0] rfl) hP hD hS hg
        · have hg := zp hg h77
          refine lv_aload_n hx hb dX11_silence_80 rfl (lv_at hl 1 rfl) ?_
          refine zget (C := RX11) (T := TX11) (N := 31) S hK hP 0 rfl rfl 0 (Nat.le_of_ble_eq_true rfl) zf_11 zw_149 rfl dX11_silence_81 ?_
          refine lv_bipush (v := 10) hx hb dX11_silence_84 (by decide) ?_
          refine ziald hx hb hK hP 5 0 rfl rfl (j := 10) (zin (by decide)) (by decide) dX11_silence_86 ?_
          refine lv_goto (tgt := 91) hx hb dX11_silence_87 (by decide) ?_
          exact B91 k44 hk44 (g_X11_silence_52 a_M_now x1 x2 x3 k44 n) ih x4 x5 ((21 * x4) + x5) ((21 * x4) + x5) (a_M_now 10) a_M_refused a_M_talks a_M_hasB a_M_hasA _ _ _ (lv_sub hl [1, 2, 3, 4, 5, 6, 0] rfl) hP hD hS hg
  have B44 : ∀  (n : Nat) (x4 : Int32) (a_M_refused : Nat → Int32) (a_M_talks : Nat → Int32) (a_M_hasB : Nat → Int32) (a_M_hasA : Nat → Int32) (H : Heap) (locs : List Loc) (ls : Array Slot) (hl : lv_has ls 12 [(0, .ref q_M), (1, .int x1), (2, .int x2), (3, .int x3), (4, .int x4)]) (hP : va_P D vwCl (ws_X11_silence cI cJ cZ cA q_M q_M_refused q_M_talks q_M_hasB q_M_hasA q_M_now u_M_images u_M_kept u_M_text u_M_size u_M_sign u_M_manyAbove u_M_manyBelow u_M_above u_M_below u_M_at u_M_begin u_M_kind u_M_value u_M_read u_M_acts u_M_act u_M_waits u_M_wait u_M_held u_M_place u_M_heap u_M_clocks u_M_counts u_M_talking u_M_most u_M_big a_M_refused a_M_talks a_M_hasB a_M_hasA a_M_now) H) (hD : va_D A (ws_X11_silence cI cJ cZ cA q_M q_M_refused q_M_talks q_M_hasB q_M_hasA q_M_now u_M_images u_M_kept u_M_text u_M_size u_M_sign u_M_manyAbove u_M_manyBelow u_M_above u_M_below u_M_at u_M_begin u_M_kind u_M_value u_M_read u_M_acts u_M_act u_M_waits u_M_wait u_M_held u_M_place u_M_heap u_M_clocks u_M_counts u_M_talking u_M_most u_M_big a_M_refused a_M_talks a_M_hasB a_M_hasA a_M_now)) (hS : va_S A s.heap H locs), g_X11_silence_44 a_M_now x1 x2 x3 n x4 a_M_refused a_M_talks a_M_hasB a_M_hasA = some o → W p l e rm_X11_silence s m args below meth c H locs 0 0 Q (F0 m 44 ls []) := by
    intro  n
    induction n with
    | zero => intro x4 a_M_refused a_M_talks a_M_hasB a_M_hasA H locs ls hl hP hD hS hg; exact nomatch (show (none : Option (Int32 × (Nat → Int32) × (Nat → Int32) × (Nat → Int32) × (Nat → Int32))) = some o from hg)
    | succ n ih =>
      intro x4 a_M_refused a_M_talks a_M_hasB a_M_hasA H locs ls hl hP hD hS hg
      have hg : g_X11_silence_44b a_M_now x1 x2 x3 (g_X11_silence_44 a_M_now x1 x2 x3 n) x4 a_M_refused a_M_talks a_M_hasB a_M_hasA = some o := hg
      refine lv_iload hx hb dX11_silence_44 (lv_at hl 4 rfl) ?_
      refine lv_if_lt (tgt := 380) hx hb dX11_silence_46 (by decide) (fun h46 => ?_) (fun h46 => ?_)
      · have hg := zp hg h46
        refine lv_iload_n hx hb dX11_silence_380 rfl (lv_at hl 3 rfl) ?_
        refine lv_iconst (v := 2) hx hb dX11_silence_381 (by decide) ?_
        refine lv_icmp_ge (tgt := 405) hx hb dX11_silence_382 (by decide) (fun h382 => ?_) (fun h382 => ?_)
        · have hg := zp hg h382
          refine lv_iconst (v := (-1)) hx hb dX11_silence_405 (by decide) ?_
          refine lv_istore (lv' := [(4, .int (-1)), (0, .ref q_M), (1, .int x1), (2, .int x2), (3, .int x3)]) hx hb dX11_silence_406 hl (by decide) rfl (fun ls hl => ?_)
          refine lv_iconst (v := 0) hx hb dX11_silence_408 (by decide) ?_
          refine lv_istore (lv' := [(5, .int 0), (4, .int (-1)), (0, .ref q_M), (1, .int x1), (2, .int x2), (3, .int x3)]) hx hb dX11_silence_409 hl (by decide) rfl (fun ls hl => ?_)
          refine lv_iconst (v := 0) hx hb dX11_silence_411 (by decide) ?_
          refine lv_istore (lv' := [(6, .int 0), (5, .int 0), (4, .int (-1)), (0, .ref q_M), (1, .int x1), (2, .int x2), (3, .int x3)]) hx hb dX11_silence_412 hl (by decide) rfl (fun ls hl => ?_)
          exact B414 zF (-1) 0 0 a_M_refused a_M_talks a_M_hasB a_M_hasA _ _ _ (lv_sub hl [3, 4, 5, 6, 2, 1, 0] rfl) hP hD hS hg
        · have hg := zn hg h382
          refine lv_iload_n hx hb dX11_silence_385 rfl (lv_at hl 3 rfl) ?_
          refine lv_if_ne (tgt := 398) hx hb dX11_silence_386 (by decide) (fun h386 => ?_) (fun h386 => ?_)
          · have hg := zn hg h386
            refine lv_aload_n hx hb dX11_silence_398 rfl (lv_at hl 0 rfl) ?_
            refine zget (C := RX11) (T := TX11) (N := 31) S hK hP 0 rfl rfl 28 (Nat.le_of_ble_eq_true rfl) zf_11 zw_167 rfl dX11_silence_399 ?_
            refine lv_iconst (v := 0) hx hb dX11_silence_402 (by decide) ?_
            refine ziald hx hb hK hP 3 0 rfl rfl (j := 0) (zin (by decide)) (by decide) dX11_silence_403 ?_
            exact hret (a_M_hasB 0) a_M_refused a_M_talks a_M_hasB a_M_hasA hg _ _ _ _ hP hS dX11_silence_404
          · have hg := zp hg h386
            refine lv_aload_n hx hb dX11_silence_389 rfl (lv_at hl 0 rfl) ?_
            refine zget (C := RX11) (T := TX11) (N := 31) S hK hP 0 rfl rfl 27 (Nat.le_of_ble_eq_true rfl) zf_11 zw_166 rfl dX11_silence_390 ?_
            refine lv_iconst (v := 0) hx hb dX11_silence_393 (by decide) ?_
            refine ziald hx hb hK hP 4 0 rfl rfl (j := 0) (zin (by decide)) (by decide) dX11_silence_394 ?_
            refine lv_goto (tgt := 404) hx hb dX11_silence_395 (by decide) ?_
            exact hret (a_M_hasA 0) a_M_refused a_M_talks a_M_hasB a_M_hasA hg _ _ _ _ hP hS dX11_silence_404
      · have hg := zn hg h46
        refine lv_iconst (v := 0) hx hb dX11_silence_49 (by decide) ?_
        refine lv_istore (lv' := [(5, .int 0), (0, .ref q_M), (1, .int x1), (2, .int x2), (3, .int x3), (4, .int x4)]) hx hb dX11_silence_50 hl (by decide) rfl (fun ls hl => ?_)
        exact B52 (g_X11_silence_44 a_M_now x1 x2 x3 n) ih zF x4 0 a_M_refused a_M_talks a_M_hasB a_M_hasA _ _ _ (lv_sub hl [1, 2, 3, 4, 5, 0] rfl) hP hD hS hg
  refine lv_iload_n hx hb dX11_silence_0 rfl (lv_at hl 1 rfl) ?_
  refine lv_i2l hx hb dX11_silence_1 rfl ?_
  refine lv_lconst (v := 0) hx hb dX11_silence_2 (by decide) ?_
  refine lv_ldc2 (v := 40) hx hb S.2.2.2.1 (ht _ zw_879) dX11_silence_3 ?_
  obtain ⟨v1, hc2, hg⟩ := zbd hg
  refine zcallS (rest := []) S (c_X11_in l D cI cJ cZ cA ga x1.toInt64 (0 : Int64) (40 : Int64) v1 hc2) (zgS zw_220 zw_221 zw_5 zw_222) rfl hd_X11_in ⟨rfl, rfl⟩ ⟨Nat.le_of_ble_eq_true rfl, Nat.le_of_ble_eq_true rfl⟩ rfl hl.1 rfl (Nat.le_of_ble_eq_true rfl) dX11_silence_6 hP hD hS hA hK hG (isC := []) rfl (by decide +kernel) rfl ⟨Nat.zero_le _, Nat.zero_le _⟩ (pl := [none, none, none, none, none, none]) (nw := 6) rfl (by decide +kernel) (w2 := (ws_X11_silence cI cJ cZ cA q_M q_M_refused q_M_talks q_M_hasB q_M_hasA q_M_now u_M_images u_M_kept u_M_text u_M_size u_M_sign u_M_manyAbove u_M_manyBelow u_M_above u_M_below u_M_at u_M_begin u_M_kind u_M_value u_M_read u_M_acts u_M_act u_M_waits u_M_wait u_M_held u_M_place u_M_heap u_M_clocks u_M_counts u_M_talking u_M_most u_M_big a_M_refused a_M_talks a_M_hasB a_M_hasA a_M_now)) rfl (st1 := [.int v1]) rfl (fun H locs hP hD hS => ?_)
  refine lv_if_eq (tgt := 36) hx hb dX11_silence_9 (by decide) (fun h9 => ?_) (fun h9 => ?_)
  · have hg := zp hg h9
    exact B36 a_M_refused a_M_talks a_M_hasB a_M_hasA _ _ _ (lv_sub hl [0] rfl) hP hD hS hg
  · have hg := zn hg h9
    refine lv_iload_n hx hb dX11_silence_12 rfl (lv_at hl 2 rfl) ?_
    refine lv_i2l hx hb dX11_silence_13 rfl ?_
    refine lv_lconst (v := 1) hx hb dX11_silence_14 (by decide) ?_
    refine lv_ldc2 (v := 20) hx hb S.2.2.2.1 (ht _ zw_855) dX11_silence_15 ?_
    obtain ⟨v5, hc6, hg⟩ := zbd hg
    refine zcallS (rest := []) S (c_X11_in l D cI cJ cZ cA ga x2.toInt64 (1 : Int64) (20 : Int64) v5 hc6) (zgS zw_220 zw_221 zw_5 zw_222) rfl hd_X11_in ⟨rfl, rfl⟩ ⟨Nat.le_of_ble_eq_true rfl, Nat.le_of_ble_eq_true rfl⟩ rfl hl.1 rfl (Nat.le_of_ble_eq_true rfl) dX11_silence_18 hP hD hS hA hK hG (isC := []) rfl (by decide +kernel) rfl ⟨Nat.zero_le _, Nat.zero_le _⟩ (pl := [none, none, none, none, none, none]) (nw := 6) rfl (by decide +kernel) (w2 := (ws_X11_silence cI cJ cZ cA q_M q_M_refused q_M_talks q_M_hasB q_M_hasA q_M_now u_M_images u_M_kept u_M_text u_M_size u_M_sign u_M_manyAbove u_M_manyBelow u_M_above u_M_below u_M_at u_M_begin u_M_kind u_M_value u_M_read u_M_acts u_M_act u_M_waits u_M_wait u_M_held u_M_place u_M_heap u_M_clocks u_M_counts u_M_talking u_M_most u_M_big a_M_refused a_M_talks a_M_hasB a_M_hasA a_M_now)) rfl (st1 := [.int v5]) rfl (fun H locs hP hD hS => ?_)
    refine lv_if_eq (tgt := 36) hx hb dX11_silence_21 (by decide) (fun h21 => ?_) (fun h21 => ?_)
    · have hg := zp hg h21
      exact B36 a_M_refused a_M_talks a_M_hasB a_M_hasA _ _ _ (lv_sub hl [0] rfl) hP hD hS hg
    · have hg := zn hg h21
      refine lv_iload_n hx hb dX11_silence_24 rfl (lv_at hl 3 rfl) ?_
      refine lv_i2l hx hb dX11_silence_25 rfl ?_
      refine lv_lconst (v := 0) hx hb dX11_silence_26 (by decide) ?_
      refine lv_ldc2 (v := 3) hx hb S.2.2.2.1 (ht _ zw_880) dX11_silence_27 ?_
      obtain ⟨v7, hc8, hg⟩ := zbd hg
      refine zcallS (rest := []) S (c_X11_in l D cI cJ cZ cA ga x3.toInt64 (0 : Int64) (3 : Int64) v7 hc8) (zgS zw_220 zw_221 zw_5 zw_222) rfl hd_X11_in ⟨rfl, rfl⟩ ⟨Nat.le_of_ble_eq_true rfl, Nat.le_of_ble_eq_true rfl⟩ rfl hl.1 rfl (Nat.le_of_ble_eq_true rfl) dX11_silence_30 hP hD hS hA hK hG (isC := []) rfl (by decide +kernel) rfl ⟨Nat.zero_le _, Nat.zero_le _⟩ (pl := [none, none, none, none, none, none]) (nw := 6) rfl (by decide +kernel) (w2 := (ws_X11_silence cI cJ cZ cA q_M q_M_refused q_M_talks q_M_hasB q_M_hasA q_M_now u_M_images u_M_kept u_M_text u_M_size u_M_sign u_M_manyAbove u_M_manyBelow u_M_above u_M_below u_M_at u_M_begin u_M_kind u_M_value u_M_read u_M_acts u_M_act u_M_waits u_M_wait u_M_held u_M_place u_M_heap u_M_clocks u_M_counts u_M_talking u_M_most u_M_big a_M_refused a_M_talks a_M_hasB a_M_hasA a_M_now)) rfl (st1 := [.int v7]) rfl (fun H locs hP hD hS => ?_)
      refine lv_if_ne (tgt := 41) hx hb dX11_silence_33 (by decide) (fun h33 => ?_) (fun h33 => ?_)
      · have hg := zn hg h33
        refine lv_iload_n hx hb dX11_silence_41 rfl (lv_at hl 1 rfl) ?_
        refine lv_istore (lv' := [(4, .int x1), (0, .ref q_M), (1, .int x1), (2, .int x2), (3, .int x3)]) hx hb dX11_silence_42 hl (by decide) rfl (fun ls hl => ?_)
        exact B44 zF x1 a_M_refused a_M_talks a_M_hasB a_M_hasA _ _ _ (lv_sub hl [1, 2, 3, 4, 0] rfl) hP hD hS hg
      · have hg := zp hg h33
        exact B36 a_M_refused a_M_talks a_M_hasB a_M_hasA _ _ _ (lv_sub hl [0] rfl) hP hD hS hg

/-! SpokenClockModel.mixes(IJIJ)V -/
abbrev ws_X11_mixes (cI cJ cZ cA : ClassId) (q_M q_M_big : Nat) (u_M_now : Value) (u_M_images : Value) (u_M_kept : Value) (u_M_text : Value) (u_M_size : Value) (u_M_sign : Value) (u_M_manyAbove : Value) (u_M_manyBelow : Value) (u_M_above : Value) (u_M_below : Value) (u_M_refused : Value) (u_M_at : Value) (u_M_begin : Value) (u_M_kind : Value) (u_M_value : Value) (u_M_read : Value) (u_M_acts : Value) (u_M_act : Value) (u_M_waits : Value) (u_M_wait : Value) (u_M_held : Value) (u_M_place : Value) (u_M_heap : Value) (u_M_clocks : Value) (u_M_counts : Value) (u_M_talking : Value) (u_M_most : Value) (u_M_hasA : Value) (u_M_hasB : Value) (u_M_talks : Value) (a_M_big : Nat → Int64) : va_W := [(q_M, .inr (11, [u_M_now, u_M_images, u_M_kept, u_M_text, u_M_size, u_M_sign, u_M_manyAbove, u_M_manyBelow, u_M_above, u_M_below, u_M_refused, u_M_at, u_M_begin, u_M_kind, u_M_value, u_M_read, u_M_acts, u_M_act, u_M_waits, u_M_wait, u_M_held, u_M_place, u_M_heap, u_M_clocks, u_M_counts, u_M_talking, u_M_most, u_M_hasA, u_M_hasB, u_M_talks, .ref q_M_big])), (q_M_big, .inl (cJ, 512, .inr (.inl a_M_big)))]
abbrev rm_X11_mixes : Room := { frames := 0, cells := 0, slots := 0, locals := 0 }
def g_X11_mixes_6b (x1 : Int32) (x2 : Int64) (x4 : Int32) (x5 : Int64) (k6 : Int64 → Int32 → (Nat → Int64) → Option ((Nat → Int64))) (x7 : Int64) (x9 : Int32) (a_M_big : Nat → Int64) : Option ((Nat → Int64)) :=
  if 8 ≤ x9 then (
    some (a_M_big)
  ) else (
    if ((8 * x1) + x9) < 0 ∨ 512 ≤ ((8 * x1) + x9).toNatClampNeg then none else
    if ((8 * x4) + x9) < 0 ∨ 512 ≤ ((8 * x4) + x9).toNatClampNeg then none else
    if ((8 * x1) + x9) < 0 ∨ 512 ≤ ((8 * x1) + x9).toNatClampNeg then none else
    k6 ((x7 + ((x2 * (a_M_big (((8 * x1) + x9).toNatClampNeg))) + (x5 * (a_M_big (((8 * x4) + x9).toNatClampNeg))))) / (1073741824 : Int64)) (x9 + 1) (vp_updL a_M_big (((8 * x1) + x9).toNatClampNeg) ((x7 + ((x2 * (a_M_big (((8 * x1) + x9).toNatClampNeg))) + (x5 * (a_M_big (((8 * x4) + x9).toNatClampNeg))))) - (x7 + ((x2 * (a_M_big (((8 * x1) + x9).toNatClampNeg))) + (x5 * (a_M_big (((8 * x4) + x9).toNatClampNeg))))) / (1073741824 : Int64) * (1073741824 : Int64)))
  )
def g_X11_mixes_6 (x1 : Int32) (x2 : Int64) (x4 : Int32) (x5 : Int64) : Nat → Int64 → Int32 → (Nat → Int64) → Option ((Nat → Int64))
  | 0, _, _, _ => none
  | n + 1, x7, x9, a_M_big => g_X11_mixes_6b x1 x2 x4 x5 (g_X11_mixes_6 x1 x2 x4 x5 n) x7 x9 a_M_big
def g_X11_mixes (x1 : Int32) (x2 : Int64) (x4 : Int32) (x5 : Int64) (a_M_big : Nat → Int64) : Option ((Nat → Int64)) :=
  g_X11_mixes_6 x1 x2 x4 x5 zF (0 : Int64) 0 a_M_big
theorem hd_X11_mixes : yX11_mixes.cls = RX11 ∧ yX11_mixes.cls ≠ "java/lang/invoke/MethodHandle" ∧ yX11_mixes.cls ≠ "java/lang/invoke/VarHandle" ∧ (parseMethodDescriptor yX11_mixes.desc).map (fun d => d.parameters.length) = some 4 := by decide +kernel
set_option maxHeartbeats 4000000 in
set_option maxRecDepth 100000 in
theorem c_X11_mixes (l : Launch) (D : va_G) (cI cJ cZ cA : ClassId) (ga : Nat → Nat) (q_M q_M_big : Nat) (u_M_now : Value) (u_M_images : Value) (u_M_kept : Value) (u_M_text : Value) (u_M_size : Value) (u_M_sign : Value) (u_M_manyAbove : Value) (u_M_manyBelow : Value) (u_M_above : Value) (u_M_below : Value) (u_M_refused : Value) (u_M_at : Value) (u_M_begin : Value) (u_M_kind : Value) (u_M_value : Value) (u_M_read : Value) (u_M_acts : Value) (u_M_act : Value) (u_M_waits : Value) (u_M_wait : Value) (u_M_held : Value) (u_M_place : Value) (u_M_heap : Value) (u_M_clocks : Value) (u_M_counts : Value) (u_M_talking : Value) (u_M_most : Value) (u_M_hasA : Value) (u_M_hasB : Value) (u_M_talks : Value) (a_M_big : Nat → Int64) (x1 : Int32) (x2 : Int64) (x4 : Int32) (x5 : Int64) (o : (Nat → Int64)) (hg : g_X11_mixes x1 x2 x4 x5 a_M_big = some o) : zM l yX11_mixes (Cond.code yX11_mixes cX11_mixes 10 none :: wsL_law) rm_X11_mixes D (zTy cI cJ cZ cA) ga [.ref q_M, .int x1, .long x2, .int x4, .long x5] (ws_X11_mixes cI cJ cZ cA q_M q_M_big u_M_now u_M_images u_M_kept u_M_text u_M_size u_M_sign u_M_manyAbove u_M_manyBelow u_M_above u_M_below u_M_refused u_M_at u_M_begin u_M_kind u_M_value u_M_read u_M_acts u_M_act u_M_waits u_M_wait u_M_held u_M_place u_M_heap u_M_clocks u_M_counts u_M_talking u_M_most u_M_hasA u_M_hasB u_M_talks a_M_big) (ws_X11_mixes cI cJ cZ cA q_M q_M_big u_M_now u_M_images u_M_kept u_M_text u_M_size u_M_sign u_M_manyAbove u_M_manyBelow u_M_above u_M_below u_M_refused u_M_at u_M_begin u_M_kind u_M_value u_M_read u_M_acts u_M_act u_M_waits u_M_wait u_M_held u_M_place u_M_heap u_M_clocks u_M_counts u_M_talking u_M_most u_M_hasA u_M_hasB u_M_talks o) none := by
  refine zenterV (own := RX11) (by decide) rfl rfl (Nat.le_of_ble_eq_true rfl) ?_
  intro p e s m args below meth c A ls Q S hA hK hG hl hP hD hS hret0
  have hx := S.1
  have hb := S.2.1
  have ht : ∀ w, w ∈ wsL_law → w.before args s = true := fun w h => S.2.2.2.2 w (List.mem_cons_of_mem _ h)
  have hret : ∀ (a_M_big : Nat → Int64), (some (a_M_big) : Option ((Nat → Int64))) = some o → ∀ (H : Heap) (locs : List Loc) (pc : Nat) (ls : Array Slot), va_P D vwCl (ws_X11_mixes cI cJ cZ cA q_M q_M_big u_M_now u_M_images u_M_kept u_M_text u_M_size u_M_sign u_M_manyAbove u_M_manyBelow u_M_above u_M_below u_M_refused u_M_at u_M_begin u_M_kind u_M_value u_M_read u_M_acts u_M_act u_M_waits u_M_wait u_M_held u_M_place u_M_heap u_M_clocks u_M_counts u_M_talking u_M_most u_M_hasA u_M_hasB u_M_talks a_M_big) H → va_S A s.heap H locs → decode cX11_mixes pc = .ok (.return_, 1) → W p l e rm_X11_mixes s m args below meth c H locs 0 0 Q (F0 m pc ls []) := by
    intro a_M_big he; cases he; exact hret0
  have hl : lv_has ls 10 [(0, .ref q_M), (1, .int x1), (2, .long x2), (4, .int x4), (5, .long x5)] := hl
  have B6 : ∀  (n : Nat) (x7 : Int64) (x9 : Int32) (a_M_big : Nat → Int64) (H : Heap) (locs : List Loc) (ls : Array Slot) (hl : lv_has ls 10 [(0, .ref q_M), (1, .int x1), (2, .long x2), (4, .int x4), (5, .long x5), (7, .long x7), (9, .int x9)]) (hP : va_P D vwCl (ws_X11_mixes cI cJ cZ cA q_M q_M_big u_M_now u_M_images u_M_kept u_M_text u_M_size u_M_sign u_M_manyAbove u_M_manyBelow u_M_above u_M_below u_M_refused u_M_at u_M_begin u_M_kind u_M_value u_M_read u_M_acts u_M_act u_M_waits u_M_wait u_M_held u_M_place u_M_heap u_M_clocks u_M_counts u_M_talking u_M_most u_M_hasA u_M_hasB u_M_talks a_M_big) H) (hD : va_D A (ws_X11_mixes cI cJ cZ cA q_M q_M_big u_M_now u_M_images u_M_kept u_M_text u_M_size u_M_sign u_M_manyAbove u_M_manyBelow u_M_above u_M_below u_M_refused u_M_at u_M_begin u_M_kind u_M_value u_M_read u_M_acts u_M_act u_M_waits u_M_wait u_M_held u_M_place u_M_heap u_M_clocks u_M_counts u_M_talking u_M_most u_M_hasA u_M_hasB u_M_talks a_M_big)) (hS : va_S A s.heap H locs), g_X11_mixes_6 x1 x2 x4 x5 n x7 x9 a_M_big = some o → W p l e rm_X11_mixes s m args below meth c H locs 0 0 Q (F0 m 6 ls []) := by
    intro  n
    induction n with
    | zero => intro x7 x9 a_M_big H locs ls hl hP hD hS hg; exact nomatch (show (none : Option ((Nat → Int64))) = some o from hg)
    | succ n ih =>
      intro x7 x9 a_M_big H locs ls hl hP hD hS hg
      have hg : g_X11_mixes_6b x1 x2 x4 x5 (g_X11_mixes_6 x1 x2 x4 x5 n) x7 x9 a_M_big = some o := hg
      refine lv_iload hx hb dX11_mixes_6 (lv_at hl 6 rfl) ?_
      refine lv_bipush (v := 8) hx hb dX11_mixes_8 (by decide) ?_
      refine lv_icmp_ge (tgt := 81) hx hb dX11_mixes_10 (by decide) (fun h10 => ?_) (fun h10 => ?_)
      · have hg := zp hg h10
        exact hret a_M_big hg _ _ _ _ hP hS dX11_mixes_81
      · have hg := zn hg h10
        refine lv_lload hx hb dX11_mixes_13 (lv_at hl 5 rfl) ?_
        refine lv_lload_n hx hb dX11_mixes_15 rfl (lv_at hl 2 rfl) ?_
        refine lv_aload_n hx hb dX11_mixes_16 rfl (lv_at hl 0 rfl) ?_
        refine zget (C := RX11) (T := TX11) (N := 31) S hK hP 0 rfl rfl 30 (Nat.le_of_ble_eq_true rfl) zf_11 zw_169 rfl dX11_mixes_17 ?_
        refine lv_bipush (v := 8) hx hb dX11_mixes_20 (by decide) ?_
        refine lv_iload_n hx hb dX11_mixes_22 rfl (lv_at hl 1 rfl) ?_
        refine lv_imul hx hb dX11_mixes_23 ?_
        refine lv_iload hx hb dX11_mixes_24 (lv_at hl 6 rfl) ?_
        refine lv_iadd hx hb dX11_mixes_26 ?_
        obtain ⟨h1, hg⟩ := zck hg
        refine zlald hx hb hK hP 1 1 rfl rfl (j := (((8 * x1) + x9).toNatClampNeg)) h1 rfl dX11_mixes_27 ?_
        refine lv_lmul hx hb dX11_mixes_28 ?_
        refine lv_lload hx hb dX11_mixes_29 (lv_at hl 4 rfl) ?_
        refine lv_aload_n hx hb dX11_mixes_31 rfl (lv_at hl 0 rfl) ?_
        refine zget (C := RX11) (T := TX11) (N := 31) S hK hP 0 rfl rfl 30 (Nat.le_of_ble_eq_true rfl) zf_11 zw_169 rfl dX11_mixes_32 ?_
        refine lv_bipush (v := 8) hx hb dX11_mixes_35 (by decide) ?_
        refine lv_iload hx hb dX11_mixes_37 (lv_at hl 3 rfl) ?_
        refine lv_imul hx hb dX11_mixes_39 ?_
        refine lv_iload hx hb dX11_mixes_40 (lv_at hl 6 rfl) ?_
        refine lv_iadd hx hb dX11_mixes_42 ?_
        obtain ⟨h2, hg⟩ := zck hg
        refine zlald hx hb hK hP 1 1 rfl rfl (j := (((8 * x4) + x9).toNatClampNeg)) h2 rfl dX11_mixes_43 ?_
        refine lv_lmul hx hb dX11_mixes_44 ?_
        refine lv_ladd hx hb dX11_mixes_45 ?_
        refine lv_ladd hx hb dX11_mixes_46 ?_
        refine lv_lstore (lv' := [(7, .long (x7 + ((x2 * (a_M_big (((8 * x1) + x9).toNatClampNeg))) + (x5 * (a_M_big (((8 * x4) + x9).toNatClampNeg)))))), (0, .ref q_M), (1, .int x1), (2, .long x2), (4, .int x4), (5, .long x5), (9, .int x9)]) hx hb dX11_mixes_47 hl (by decide) rfl (fun ls hl => ?_)
        refine lv_aload_n hx hb dX11_mixes_49 rfl (lv_at hl 1 rfl) ?_
        refine zget (C := RX11) (T := TX11) (N := 31) S hK hP 0 rfl rfl 30 (Nat.le_of_ble_eq_true rfl) zf_11 zw_169 rfl dX11_mixes_50 ?_
        refine lv_bipush (v := 8) hx hb dX11_mixes_53 (by decide) ?_
        refine lv_iload_n hx hb dX11_mixes_55 rfl (lv_at hl 2 rfl) ?_
        refine lv_imul hx hb dX11_mixes_56 ?_
        refine lv_iload hx hb dX11_mixes_57 (lv_at hl 6 rfl) ?_
        refine lv_iadd hx hb dX11_mixes_59 ?_
        refine lv_lload hx hb dX11_mixes_60 (lv_at hl 0 rfl) ?_
        refine lv_ldc2 (v := 1073741824) hx hb S.2.2.2.1 (ht _ zw_926) dX11_mixes_62 ?_
        refine lv_lrem hx hb dX11_mixes_65 (by decide) ?_
        obtain ⟨h3, hg⟩ := zck hg
        refine zlast hx hb hK hP hD hS 1 1 rfl rfl (j := (((8 * x1) + x9).toNatClampNeg)) h3 rfl dX11_mixes_66 (w2 := (ws_X11_mixes cI cJ cZ cA q_M q_M_big u_M_now u_M_images u_M_kept u_M_text u_M_size u_M_sign u_M_manyAbove u_M_manyBelow u_M_above u_M_below u_M_refused u_M_at u_M_begin u_M_kind u_M_value u_M_read u_M_acts u_M_act u_M_waits u_M_wait u_M_held u_M_place u_M_heap u_M_clocks u_M_counts u_M_talking u_M_most u_M_hasA u_M_hasB u_M_talks (vp_updL a_M_big (((8 * x1) + x9).toNatClampNeg) ((x7 + ((x2 * (a_M_big (((8 * x1) + x9).toNatClampNeg))) + (x5 * (a_M_big (((8 * x4) + x9).toNatClampNeg))))) - (x7 + ((x2 * (a_M_big (((8 * x1) + x9).toNatClampNeg))) + (x5 * (a_M_big (((8 * x4) + x9).toNatClampNeg))))) / (1073741824 : Int64) * (1073741824 : Int64))))) rfl (fun H locs hP hD hS => ?_)
        refine lv_lload hx hb dX11_mixes_67 (lv_at hl 0 rfl) ?_
        refine lv_ldc2 (v := 1073741824) hx hb S.2.2.2.1 (ht _ zw_926) dX11_mixes_69 ?_
        refine lv_ldiv hx hb dX11_mixes_72 (by decide) ?_
        refine lv_lstore (lv' := [(7, .long ((x7 + ((x2 * (a_M_big (((8 * x1) + x9).toNatClampNeg))) + (x5 * (a_M_big (((8 * x4) + x9).toNatClampNeg))))) / (1073741824 : Int64))), (0, .ref q_M), (1, .int x1), (2, .long x2), (4, .int x4), (5, .long x5), (9, .int x9)]) hx hb dX11_mixes_73 hl (by decide) rfl (fun ls hl => ?_)
        refine lv_iinc (k := 6) (v := x9 + 1) (lv' := [(9, .int (x9 + 1)), (7, .long ((x7 + ((x2 * (a_M_big (((8 * x1) + x9).toNatClampNeg))) + (x5 * (a_M_big (((8 * x4) + x9).toNatClampNeg))))) / (1073741824 : Int64))), (0, .ref q_M), (1, .int x1), (2, .long x2), (4, .int x4), (5, .long x5)]) hx hb dX11_mixes_75 hl rfl (zinc (by decide)) (by decide) rfl (fun ls hl => ?_)
        refine lv_goto (tgt := 6) hx hb dX11_mixes_78 (by decide) ?_
        exact ih ((x7 + ((x2 * (a_M_big (((8 * x1) + x9).toNatClampNeg))) + (x5 * (a_M_big (((8 * x4) + x9).toNatClampNeg))))) / (1073741824 : Int64)) (x9 + 1) (vp_updL a_M_big (((8 * x1) + x9).toNatClampNeg) ((x7 + ((x2 * (a_M_big (((8 * x1) + x9).toNatClampNeg))) + (x5 * (a_M_big (((8 * x4) + x9).toNatClampNeg))))) - (x7 + ((x2 * (a_M_big (((8 * x1) + x9).toNatClampNeg))) + (x5 * (a_M_big (((8 * x4) + x9).toNatClampNeg))))) / (1073741824 : Int64) * (1073741824 : Int64))) _ _ _ (lv_sub hl [2, 3, 4, 5, 6, 1, 0] rfl) hP hD hS hg
  refine lv_lconst (v := 0) hx hb dX11_mixes_0 (by decide) ?_
  refine lv_lstore (lv' := [(7, .long (0 : Int64)), (0, .ref q_M), (1, .int x1), (2, .long x2), (4, .int x4), (5, .long x5)]) hx hb dX11_mixes_1 hl (by decide) rfl (fun ls hl => ?_)
  refine lv_iconst (v := 0) hx hb dX11_mixes_3 (by decide) ?_
  refine lv_istore (lv' := [(9, .int 0), (7, .long (0 : Int64)), (0, .ref q_M), (1, .int x1), (2, .long x2), (4, .int x4), (5, .long x5)]) hx hb dX11_mixes_4 hl (by decide) rfl (fun ls hl => ?_)
  exact B6 zF (0 : Int64) 0 a_M_big _ _ _ (lv_sub hl [2, 3, 4, 5, 6, 1, 0] rfl) hP hD hS hg

/-! SpokenClockModel.restOf(IJ)J -/
abbrev ws_X11_restOf (cI cJ cZ cA : ClassId) (q_M q_M_big : Nat) (u_M_now : Value) (u_M_images : Value) (u_M_kept : Value) (u_M_text : Value) (u_M_size : Value) (u_M_sign : Value) (u_M_manyAbove : Value) (u_M_manyBelow : Value) (u_M_above : Value) (u_M_below : Value) (u_M_refused : Value) (u_M_at : Value) (u_M_begin : Value) (u_M_kind : Value) (u_M_value : Value) (u_M_read : Value) (u_M_acts : Value) (u_M_act : Value) (u_M_waits : Value) (u_M_wait : Value) (u_M_held : Value) (u_M_place : Value) (u_M_heap : Value) (u_M_clocks : Value) (u_M_counts : Value) (u_M_talking : Value) (u_M_most : Value) (u_M_hasA : Value) (u_M_hasB : Value) (u_M_talks : Value) (a_M_big : Nat → Int64) : va_W := [(q_M, .inr (11, [u_M_now, u_M_images, u_M_kept, u_M_text, u_M_size, u_M_sign, u_M_manyAbove, u_M_manyBelow, u_M_above, u_M_below, u_M_refused, u_M_at, u_M_begin, u_M_kind, u_M_value, u_M_read, u_M_acts, u_M_act, u_M_waits, u_M_wait, u_M_held, u_M_place, u_M_heap, u_M_clocks, u_M_counts, u_M_talking, u_M_most, u_M_hasA, u_M_hasB, u_M_talks, .ref q_M_big])), (q_M_big, .inl (cJ, 512, .inr (.inl a_M_big)))]
abbrev rm_X11_restOf : Room := { frames := 0, cells := 0, slots := 0, locals := 0 }
def g_X11_restOf_7b (a_M_big : Nat → Int64) (x1 : Int32) (x2 : Int64) (k7 : Int64 → Int32 → Option (Int64)) (x4 : Int64) (x6 : Int32) : Option (Int64) :=
  if x6 < 0 then (
    some (x4)
  ) else (
    if ((8 * x1) + x6) < 0 ∨ 512 ≤ ((8 * x1) + x6).toNatClampNeg then none else
    if x2 = 0 then none else
    k7 (((x4 * (1073741824 : Int64)) + (a_M_big (((8 * x1) + x6).toNatClampNeg))) - ((x4 * (1073741824 : Int64)) + (a_M_big (((8 * x1) + x6).toNatClampNeg))) / x2 * x2) (x6 + (-1))
  )
def g_X11_restOf_7 (a_M_big : Nat → Int64) (x1 : Int32) (x2 : Int64) : Nat → Int64 → Int32 → Option (Int64)
  | 0, _, _ => none
  | n + 1, x4, x6 => g_X11_restOf_7b a_M_big x1 x2 (g_X11_restOf_7 a_M_big x1 x2 n) x4 x6
def g_X11_restOf (a_M_big : Nat → Int64) (x1 : Int32) (x2 : Int64) : Option (Int64) :=
  g_X11_restOf_7 a_M_big x1 x2 zF (0 : Int64) 7
theorem hd_X11_restOf : yX11_restOf.cls = RX11 ∧ yX11_restOf.cls ≠ "java/lang/invoke/MethodHandle" ∧ yX11_restOf.cls ≠ "java/lang/invoke/VarHandle" ∧ (parseMethodDescriptor yX11_restOf.desc).map (fun d => d.parameters.length) = some 2 := by decide +kernel
set_option maxHeartbeats 4000000 in
set_option maxRecDepth 100000 in
theorem c_X11_restOf (l : Launch) (D : va_G) (cI cJ cZ cA : ClassId) (ga : Nat → Nat) (q_M q_M_big : Nat) (u_M_now : Value) (u_M_images : Value) (u_M_kept : Value) (u_M_text : Value) (u_M_size : Value) (u_M_sign : Value) (u_M_manyAbove : Value) (u_M_manyBelow : Value) (u_M_above : Value) (u_M_below : Value) (u_M_refused : Value) (u_M_at : Value) (u_M_begin : Value) (u_M_kind : Value) (u_M_value : Value) (u_M_read : Value) (u_M_acts : Value) (u_M_act : Value) (u_M_waits : Value) (u_M_wait : Value) (u_M_held : Value) (u_M_place : Value) (u_M_heap : Value) (u_M_clocks : Value) (u_M_counts : Value) (u_M_talking : Value) (u_M_most : Value) (u_M_hasA : Value) (u_M_hasB : Value) (u_M_talks : Value) (a_M_big : Nat → Int64) (x1 : Int32) (x2 : Int64) (o : Int64) (hg : g_X11_restOf a_M_big x1 x2 = some o) : zM l yX11_restOf (Cond.code yX11_restOf cX11_restOf 7 (some .long) :: wsL_law) rm_X11_restOf D (zTy cI cJ cZ cA) ga [.ref q_M, .int x1, .long x2] (ws_X11_restOf cI cJ cZ cA q_M q_M_big u_M_now u_M_images u_M_kept u_M_text u_M_size u_M_sign u_M_manyAbove u_M_manyBelow u_M_above u_M_below u_M_refused u_M_at u_M_begin u_M_kind u_M_value u_M_read u_M_acts u_M_act u_M_waits u_M_wait u_M_held u_M_place u_M_heap u_M_clocks u_M_counts u_M_talking u_M_most u_M_hasA u_M_hasB u_M_talks a_M_big) (ws_X11_restOf cI cJ cZ cA q_M q_M_big u_M_now u_M_images u_M_kept u_M_text u_M_size u_M_sign u_M_manyAbove u_M_manyBelow u_M_above u_M_below u_M_refused u_M_at u_M_begin u_M_kind u_M_value u_M_read u_M_acts u_M_act u_M_waits u_M_wait u_M_held u_M_place u_M_heap u_M_clocks u_M_counts u_M_talking u_M_most u_M_hasA u_M_hasB u_M_talks a_M_big) (some (.long o)) := by
  refine zenterL (own := RX11) (by decide) rfl rfl (Nat.le_of_ble_eq_true rfl) ?_
  intro p e s m args below meth c A ls Q S hA hK hG hl hP hD hS hret0
  have hx := S.1
  have hb := S.2.1
  have ht : ∀ w, w ∈ wsL_law → w.before args s = true := fun w h => S.2.2.2.2 w (List.mem_cons_of_mem _ h)
  have hret : ∀ (r9 : Int64), (some (r9) : Option (Int64)) = some o → ∀ (H : Heap) (locs : List Loc) (pc : Nat) (ls : Array Slot), va_P D vwCl (ws_X11_restOf cI cJ cZ cA q_M q_M_big u_M_now u_M_images u_M_kept u_M_text u_M_size u_M_sign u_M_manyAbove u_M_manyBelow u_M_above u_M_below u_M_refused u_M_at u_M_begin u_M_kind u_M_value u_M_read u_M_acts u_M_act u_M_waits u_M_wait u_M_held u_M_place u_M_heap u_M_clocks u_M_counts u_M_talking u_M_most u_M_hasA u_M_hasB u_M_talks a_M_big) H → va_S A s.heap H locs → decode cX11_restOf pc = .ok (.lreturn, 1) → W p l e rm_X11_restOf s m args below meth c H locs 0 0 Q (F0 m pc ls [.long r9]) := by
    intro r9 he; cases he; exact hret0
  have hl : lv_has ls 7 [(0, .ref q_M), (1, .int x1), (2, .long x2)] := hl
  have B7 : ∀  (n : Nat) (x4 : Int64) (x6 : Int32) (H : Heap) (locs : List Loc) (ls : Array Slot) (hl : lv_has ls 7 [(0, .ref q_M), (1, .int x1), (2, .long x2), (4, .long x4), (6, .int x6)]) (hP : va_P D vwCl (ws_X11_restOf cI cJ cZ cA q_M q_M_big u_M_now u_M_images u_M_kept u_M_text u_M_size u_M_sign u_M_manyAbove u_M_manyBelow u_M_above u_M_below u_M_refused u_M_at u_M_begin u_M_kind u_M_value u_M_read u_M_acts u_M_act u_M_waits u_M_wait u_M_held u_M_place u_M_heap u_M_clocks u_M_counts u_M_talking u_M_most u_M_hasA u_M_hasB u_M_talks a_M_big) H) (hD : va_D A (ws_X11_restOf cI cJ cZ cA q_M q_M_big u_M_now u_M_images u_M_kept u_M_text u_M_size u_M_sign u_M_manyAbove u_M_manyBelow u_M_above u_M_below u_M_refused u_M_at u_M_begin u_M_kind u_M_value u_M_read u_M_acts u_M_act u_M_waits u_M_wait u_M_held u_M_place u_M_heap u_M_clocks u_M_counts u_M_talking u_M_most u_M_hasA u_M_hasB u_M_talks a_M_big)) (hS : va_S A s.heap H locs), g_X11_restOf_7 a_M_big x1 x2 n x4 x6 = some o → W p l e rm_X11_restOf s m args below meth c H locs 0 0 Q (F0 m 7 ls []) := by
    intro  n
    induction n with
    | zero => intro x4 x6 H locs ls hl hP hD hS hg; exact nomatch (show (none : Option (Int64)) = some o from hg)
    | succ n ih =>
      intro x4 x6 H locs ls hl hP hD hS hg
      have hg : g_X11_restOf_7b a_M_big x1 x2 (g_X11_restOf_7 a_M_big x1 x2 n) x4 x6 = some o := hg
      refine lv_iload hx hb dX11_restOf_7 (lv_at hl 4 rfl) ?_
      refine lv_if_lt (tgt := 41) hx hb dX11_restOf_9 (by decide) (fun h9 => ?_) (fun h9 => ?_)
      · have hg := zp hg h9
        refine lv_lload hx hb dX11_restOf_41 (lv_at hl 3 rfl) ?_
        exact hret x4 hg _ _ _ _ hP hS dX11_restOf_43
      · have hg := zn hg h9
        refine lv_lload hx hb dX11_restOf_12 (lv_at hl 3 rfl) ?_
        refine lv_ldc2 (v := 1073741824) hx hb S.2.2.2.1 (ht _ zw_926) dX11_restOf_14 ?_
        refine lv_lmul hx hb dX11_restOf_17 ?_
        refine lv_aload_n hx hb dX11_restOf_18 rfl (lv_at hl 0 rfl) ?_
        refine zget (C := RX11) (T := TX11) (N := 31) S hK hP 0 rfl rfl 30 (Nat.le_of_ble_eq_true rfl) zf_11 zw_169 rfl dX11_restOf_19 ?_
        refine lv_bipush (v := 8) hx hb dX11_restOf_22 (by decide) ?_
        refine lv_iload_n hx hb dX11_restOf_24 rfl (lv_at hl 1 rfl) ?_
        refine lv_imul hx hb dX11_restOf_25 ?_
        refine lv_iload hx hb dX11_restOf_26 (lv_at hl 4 rfl) ?_
        refine lv_iadd hx hb dX11_restOf_28 ?_
        obtain ⟨h1, hg⟩ := zck hg
        refine zlald hx hb hK hP 1 1 rfl rfl (j := (((8 * x1) + x6).toNatClampNeg)) h1 rfl dX11_restOf_29 ?_
        refine lv_ladd hx hb dX11_restOf_30 ?_
        refine lv_lload_n hx hb dX11_restOf_31 rfl (lv_at hl 2 rfl) ?_
        obtain ⟨h2, hg⟩ := zck hg
        refine lv_lrem hx hb dX11_restOf_32 h2 ?_
        refine lv_lstore (lv' := [(4, .long (((x4 * (1073741824 : Int64)) + (a_M_big (((8 * x1) + x6).toNatClampNeg))) - ((x4 * (1073741824 : Int64)) + (a_M_big (((8 * x1) + x6).toNatClampNeg))) / x2 * x2)), (0, .ref q_M), (1, .int x1), (2, .long x2), (6, .int x6)]) hx hb dX11_restOf_33 hl (by decide) rfl (fun ls hl => ?_)
        refine lv_iinc (k := 4) (v := x6 + (-1)) (lv' := [(6, .int (x6 + (-1))), (4, .long (((x4 * (1073741824 : Int64)) + (a_M_big (((8 * x1) + x6).toNatClampNeg))) - ((x4 * (1073741824 : Int64)) + (a_M_big (((8 * x1) + x6).toNatClampNeg))) / x2 * x2)), (0, .ref q_M), (1, .int x1), (2, .long x2)]) hx hb dX11_restOf_35 hl rfl (zinc (by decide)) (by decide) rfl (fun ls hl => ?_)
        refine lv_goto (tgt := 7) hx hb dX11_restOf_38 (by decide) ?_
        exact ih (((x4 * (1073741824 : Int64)) + (a_M_big (((8 * x1) + x6).toNatClampNeg))) - ((x4 * (1073741824 : Int64)) + (a_M_big (((8 * x1) + x6).toNatClampNeg))) / x2 * x2) (x6 + (-1)) _ _ _ (lv_sub hl [2, 3, 4, 1, 0] rfl) hP hD hS hg
  refine lv_lconst (v := 0) hx hb dX11_restOf_0 (by decide) ?_
  refine lv_lstore (lv' := [(4, .long (0 : Int64)), (0, .ref q_M), (1, .int x1), (2, .long x2)]) hx hb dX11_restOf_1 hl (by decide) rfl (fun ls hl => ?_)
  refine lv_bipush (v := 7) hx hb dX11_restOf_3 (by decide) ?_
  refine lv_istore (lv' := [(6, .int 7), (4, .long (0 : Int64)), (0, .ref q_M), (1, .int x1), (2, .long x2)]) hx hb dX11_restOf_5 hl (by decide) rfl (fun ls hl => ?_)
  exact B7 zF (0 : Int64) 7 _ _ _ (lv_sub hl [2, 3, 4, 1, 0] rfl) hP hD hS hg

/-! SpokenClockModel.shares(IJ)V -/
abbrev ws_X11_shares (cI cJ cZ cA : ClassId) (q_M q_M_big : Nat) (u_M_now : Value) (u_M_images : Value) (u_M_kept : Value) (u_M_text : Value) (u_M_size : Value) (u_M_sign : Value) (u_M_manyAbove : Value) (u_M_manyBelow : Value) (u_M_above : Value) (u_M_below : Value) (u_M_refused : Value) (u_M_at : Value) (u_M_begin : Value) (u_M_kind : Value) (u_M_value : Value) (u_M_read : Value) (u_M_acts : Value) (u_M_act : Value) (u_M_waits : Value) (u_M_wait : Value) (u_M_held : Value) (u_M_place : Value) (u_M_heap : Value) (u_M_clocks : Value) (u_M_counts : Value) (u_M_talking : Value) (u_M_most : Value) (u_M_hasA : Value) (u_M_hasB : Value) (u_M_talks : Value) (a_M_big : Nat → Int64) : va_W := [(q_M, .inr (11, [u_M_now, u_M_images, u_M_kept, u_M_text, u_M_size, u_M_sign, u_M_manyAbove, u_M_manyBelow, u_M_above, u_M_below, u_M_refused, u_M_at, u_M_begin, u_M_kind, u_M_value, u_M_read, u_M_acts, u_M_act, u_M_waits, u_M_wait, u_M_held, u_M_place, u_M_heap, u_M_clocks, u_M_counts, u_M_talking, u_M_most, u_M_hasA, u_M_hasB, u_M_talks, .ref q_M_big])), (q_M_big, .inl (cJ, 512, .inr (.inl a_M_big)))]
abbrev rm_X11_shares : Room := { frames := 0, cells := 0, slots := 0, locals := 0 }
def g_X11_shares_7b (x1 : Int32) (x2 : Int64) (k7 : Int64 → Int32 → (Nat → Int64) → Option ((Nat → Int64))) (x4 : Int64) (x6 : Int32) (a_M_big : Nat → Int64) : Option ((Nat → Int64)) :=
  if x6 < 0 then (
    some (a_M_big)
  ) else (
    if ((8 * x1) + x6) < 0 ∨ 512 ≤ ((8 * x1) + x6).toNatClampNeg then none else
    if x2 = 0 then none else
    if ((8 * x1) + x6) < 0 ∨ 512 ≤ ((8 * x1) + x6).toNatClampNeg then none else
    if x2 = 0 then none else
    k7 (((x4 * (1073741824 : Int64)) + (a_M_big (((8 * x1) + x6).toNatClampNeg))) - ((x4 * (1073741824 : Int64)) + (a_M_big (((8 * x1) + x6).toNatClampNeg))) / x2 * x2) (x6 + (-1)) (vp_updL a_M_big (((8 * x1) + x6).toNatClampNeg) (((x4 * (1073741824 : Int64)) + (a_M_big (((8 * x1) + x6).toNatClampNeg))) / x2))
  )
def g_X11_shares_7 (x1 : Int32) (x2 : Int64) : Nat → Int64 → Int32 → (Nat → Int64) → Option ((Nat → Int64))
  | 0, _, _, _ => none
  | n + 1, x4, x6, a_M_big => g_X11_shares_7b x1 x2 (g_X11_shares_7 x1 x2 n) x4 x6 a_M_big
def g_X11_shares (x1 : Int32) (x2 : Int64) (a_M_big : Nat → Int64) : Option ((Nat → Int64)) :=
  g_X11_shares_7 x1 x2 zF (0 : Int64) 7 a_M_big
theorem hd_X11_shares : yX11_shares.cls = RX11 ∧ yX11_shares.cls ≠ "java/lang/invoke/MethodHandle" ∧ yX11_shares.cls ≠ "java/lang/invoke/VarHandle" ∧ (parseMethodDescriptor yX11_shares.desc).map (fun d => d.parameters.length) = some 2 := by decide +kernel
set_option maxHeartbeats 4000000 in
set_option maxRecDepth 100000 in
theorem c_X11_shares (l : Launch) (D : va_G) (cI cJ cZ cA : ClassId) (ga : Nat → Nat) (q_M q_M_big : Nat) (u_M_now : Value) (u_M_images : Value) (u_M_kept : Value) (u_M_text : Value) (u_M_size : Value) (u_M_sign : Value) (u_M_manyAbove : Value) (u_M_manyBelow : Value) (u_M_above : Value) (u_M_below : Value) (u_M_refused : Value) (u_M_at : Value) (u_M_begin : Value) (u_M_kind : Value) (u_M_value : Value) (u_M_read : Value) (u_M_acts : Value) (u_M_act : Value) (u_M_waits : Value) (u_M_wait : Value) (u_M_held : Value) (u_M_place : Value) (u_M_heap : Value) (u_M_clocks : Value) (u_M_counts : Value) (u_M_talking : Value) (u_M_most : Value) (u_M_hasA : Value) (u_M_hasB : Value) (u_M_talks : Value) (a_M_big : Nat → Int64) (x1 : Int32) (x2 : Int64) (o : (Nat → Int64)) (hg : g_X11_shares x1 x2 a_M_big = some o) : zM l yX11_shares (Cond.code yX11_shares cX11_shares 9 none :: wsL_law) rm_X11_shares D (zTy cI cJ cZ cA) ga [.ref q_M, .int x1, .long x2] (ws_X11_shares cI cJ cZ cA q_M q_M_big u_M_now u_M_images u_M_kept u_M_text u_M_size u_M_sign u_M_manyAbove u_M_manyBelow u_M_above u_M_below u_M_refused u_M_at u_M_begin u_M_kind u_M_value u_M_read u_M_acts u_M_act u_M_waits u_M_wait u_M_held u_M_place u_M_heap u_M_clocks u_M_counts u_M_talking u_M_most u_M_hasA u_M_hasB u_M_talks a_M_big) (ws_X11_shares cI cJ cZ cA q_M q_M_big u_M_now u_M_images u_M_kept u_M_text u_M_size u_M_sign u_M_manyAbove u_M_manyBelow u_M_above u_M_below u_M_refused u_M_at u_M_begin u_M_kind u_M_value u_M_read u_M_acts u_M_act u_M_waits u_M_wait u_M_held u_M_place u_M_heap u_M_clocks u_M_counts u_M_talking u_M_most u_M_hasA u_M_hasB u_M_talks o) none := by
  refine zenterV (own := RX11) (by decide) rfl rfl (Nat.le_of_ble_eq_true rfl) ?_
  intro p e s m args below meth c A ls Q S hA hK hG hl hP hD hS hret0
  have hx := S.1
  have hb := S.2.1
  have ht : ∀ w, w ∈ wsL_law → w.before args s = true := fun w h => S.2.2.2.2 w (List.mem_cons_of_mem _ h)
  have hret : ∀ (a_M_big : Nat → Int64), (some (a_M_big) : Option ((Nat → Int64))) = some o → ∀ (H : Heap) (locs : List Loc) (pc : Nat) (ls : Array Slot), va_P D vwCl (ws_X11_shares cI cJ cZ cA q_M q_M_big u_M_now u_M_images u_M_kept u_M_text u_M_size u_M_sign u_M_manyAbove u_M_manyBelow u_M_above u_M_below u_M_refused u_M_at u_M_begin u_M_kind u_M_value u_M_read u_M_acts u_M_act u_M_waits u_M_wait u_M_held u_M_place u_M_heap u_M_clocks u_M_counts u_M_talking u_M_most u_M_hasA u_M_hasB u_M_talks a_M_big) H → va_S A s.heap H locs → decode cX11_shares pc = .ok (.return_, 1) → W p l e rm_X11_shares s m args below meth c H locs 0 0 Q (F0 m pc ls []) := by
    intro a_M_big he; cases he; exact hret0
  have hl : lv_has ls 9 [(0, .ref q_M), (1, .int x1), (2, .long x2)] := hl
  have B7 : ∀  (n : Nat) (x4 : Int64) (x6 : Int32) (a_M_big : Nat → Int64) (H : Heap) (locs : List Loc) (ls : Array Slot) (hl : lv_has ls 9 [(0, .ref q_M), (1, .int x1), (2, .long x2), (4, .long x4), (6, .int x6)]) (hP : va_P D vwCl (ws_X11_shares cI cJ cZ cA q_M q_M_big u_M_now u_M_images u_M_kept u_M_text u_M_size u_M_sign u_M_manyAbove u_M_manyBelow u_M_above u_M_below u_M_refused u_M_at u_M_begin u_M_kind u_M_value u_M_read u_M_acts u_M_act u_M_waits u_M_wait u_M_held u_M_place u_M_heap u_M_clocks u_M_counts u_M_talking u_M_most u_M_hasA u_M_hasB u_M_talks a_M_big) H) (hD : va_D A (ws_X11_shares cI cJ cZ cA q_M q_M_big u_M_now u_M_images u_M_kept u_M_text u_M_size u_M_sign u_M_manyAbove u_M_manyBelow u_M_above u_M_below u_M_refused u_M_at u_M_begin u_M_kind u_M_value u_M_read u_M_acts u_M_act u_M_waits u_M_wait u_M_held u_M_place u_M_heap u_M_clocks u_M_counts u_M_talking u_M_most u_M_hasA u_M_hasB u_M_talks a_M_big)) (hS : va_S A s.heap H locs), g_X11_shares_7 x1 x2 n x4 x6 a_M_big = some o → W p l e rm_X11_shares s m args below meth c H locs 0 0 Q (F0 m 7 ls []) := by
    intro  n
    induction n with
    | zero => intro x4 x6 a_M_big H locs ls hl hP hD hS hg; exact nomatch (show (none : Option ((Nat → Int64))) = some o from hg)
    | succ n ih =>
      intro x4 x6 a_M_big H locs ls hl hP hD hS hg
      have hg : g_X11_shares_7b x1 x2 (g_X11_shares_7 x1 x2 n) x4 x6 a_M_big = some o := hg
      refine lv_iload hx hb dX11_shares_7 (lv_at hl 4 rfl) ?_
      refine lv_if_lt (tgt := 61) hx hb dX11_shares_9 (by decide) (fun h9 => ?_) (fun h9 => ?_)
      · have hg := zp hg h9
        exact hret a_M_big hg _ _ _ _ hP hS dX11_shares_61
      · have hg := zn hg h9
        refine lv_lload hx hb dX11_shares_12 (lv_at hl 3 rfl) ?_
        refine lv_ldc2 (v := 1073741824) hx hb S.2.2.2.1 (ht _ zw_926) dX11_shares_14 ?_
        refine lv_lmul hx hb dX11_shares_17 ?_
        refine lv_aload_n hx hb dX11_shares_18 rfl (lv_at hl 0 rfl) ?_
        refine zget (C := RX11) (T := TX11) (N := 31) S hK hP 0 rfl rfl 30 (Nat.le_of_ble_eq_true rfl) zf_11 zw_169 rfl dX11_shares_19 ?_
        refine lv_bipush (v := 8) hx hb dX11_shares_22 (by decide) ?_
        refine lv_iload_n hx hb dX11_shares_24 rfl (lv_at hl 1 rfl) ?_
        refine lv_imul hx hb dX11_shares_25 ?_
        refine lv_iload hx hb dX11_shares_26 (lv_at hl 4 rfl) ?_
        refine lv_iadd hx hb dX11_shares_28 ?_
        obtain ⟨h1, hg⟩ := zck hg
        refine zlald hx hb hK hP 1 1 rfl rfl (j := (((8 * x1) + x6).toNatClampNeg)) h1 rfl dX11_shares_29 ?_
        refine lv_ladd hx hb dX11_shares_30 ?_
        refine lv_lstore (lv' := [(7, .long ((x4 * (1073741824 : Int64)) + (a_M_big (((8 * x1) + x6).toNatClampNeg)))), (0, .ref q_M), (1, .int x1), (2, .long x2), (4, .long x4), (6, .int x6)]) hx hb dX11_shares_31 hl (by decide) rfl (fun ls hl => ?_)
        refine lv_aload_n hx hb dX11_shares_33 rfl (lv_at hl 1 rfl) ?_
        refine zget (C := RX11) (T := TX11) (N := 31) S hK hP 0 rfl rfl 30 (Nat.le_of_ble_eq_true rfl) zf_11 zw_169 rfl dX11_shares_34 ?_
        refine lv_bipush (v := 8) hx hb dX11_shares_37 (by decide) ?_
        refine lv_iload_n hx hb dX11_shares_39 rfl (lv_at hl 2 rfl) ?_
        refine lv_imul hx hb dX11_shares_40 ?_
        refine lv_iload hx hb dX11_shares_41 (lv_at hl 5 rfl) ?_
        refine lv_iadd hx hb dX11_shares_43 ?_
        refine lv_lload hx hb dX11_shares_44 (lv_at hl 0 rfl) ?_
        refine lv_lload_n hx hb dX11_shares_46 rfl (lv_at hl 3 rfl) ?_
        obtain ⟨h2, hg⟩ := zck hg
        refine lv_ldiv hx hb dX11_shares_47 h2 ?_
        obtain ⟨h3, hg⟩ := zck hg
        refine zlast hx hb hK hP hD hS 1 1 rfl rfl (j := (((8 * x1) + x6).toNatClampNeg)) h3 rfl dX11_shares_48 (w2 := (ws_X11_shares cI cJ cZ cA q_M q_M_big u_M_now u_M_images u_M_kept u_M_text u_M_size u_M_sign u_M_manyAbove u_M_manyBelow u_M_above u_M_below u_M_refused u_M_at u_M_begin u_M_kind u_M_value u_M_read u_M_acts u_M_act u_M_waits u_M_wait u_M_held u_M_place u_M_heap u_M_clocks u_M_counts u_M_talking u_M_most u_M_hasA u_M_hasB u_M_talks (vp_updL a_M_big (((8 * x1) + x6).toNatClampNeg) (((x4 * (1073741824 : Int64)) + (a_M_big (((8 * x1) + x6).toNatClampNeg))) / x2)))) rfl (fun H locs hP hD hS => ?_)
        refine lv_lload hx hb dX11_shares_49 (lv_at hl 0 rfl) ?_
        refine lv_lload_n hx hb dX11_shares_51 rfl (lv_at hl 3 rfl) ?_
        obtain ⟨h4, hg⟩ := zck hg
        refine lv_lrem hx hb dX11_shares_52 h4 ?_
        refine lv_lstore (lv' := [(4, .long (((x4 * (1073741824 : Int64)) + (a_M_big (((8 * x1) + x6).toNatClampNeg))) - ((x4 * (1073741824 : Int64)) + (a_M_big (((8 * x1) + x6).toNatClampNeg))) / x2 * x2)), (7, .long ((x4 * (1073741824 : Int64)) + (a_M_big (((8 * x1) + x6).toNatClampNeg)))), (0, .ref q_M), (1, .int x1), (2, .long x2), (6, .int x6)]) hx hb dX11_shares_53 hl (by decide) rfl (fun ls hl => ?_)
        refine lv_iinc (k := 5) (v := x6 + (-1)) (lv' := [(6, .int (x6 + (-1))), (4, .long (((x4 * (1073741824 : Int64)) + (a_M_big (((8 * x1) + x6).toNatClampNeg))) - ((x4 * (1073741824 : Int64)) + (a_M_big (((8 * x1) + x6).toNatClampNeg))) / x2 * x2)), (7, .long ((x4 * (1073741824 : Int64)) + (a_M_big (((8 * x1) + x6).toNatClampNeg)))), (0, .ref q_M), (1, .int x1), (2, .long x2)]) hx hb dX11_shares_55 hl rfl (zinc (by decide)) (by decide) rfl (fun ls hl => ?_)
        refine lv_goto (tgt := 7) hx hb dX11_shares_58 (by decide) ?_
        exact ih (((x4 * (1073741824 : Int64)) + (a_M_big (((8 * x1) + x6).toNatClampNeg))) - ((x4 * (1073741824 : Int64)) + (a_M_big (((8 * x1) + x6).toNatClampNeg))) / x2 * x2) (x6 + (-1)) (vp_updL a_M_big (((8 * x1) + x6).toNatClampNeg) (((x4 * (1073741824 : Int64)) + (a_M_big (((8 * x1) + x6).toNatClampNeg))) / x2)) _ _ _ (lv_sub hl [3, 4, 5, 1, 0] rfl) hP hD hS hg
  refine lv_lconst (v := 0) hx hb dX11_shares_0 (by decide) ?_
  refine lv_lstore (lv' := [(4, .long (0 : Int64)), (0, .ref q_M), (1, .int x1), (2, .long x2)]) hx hb dX11_shares_1 hl (by decide) rfl (fun ls hl => ?_)
  refine lv_bipush (v := 7) hx hb dX11_shares_3 (by decide) ?_
  refine lv_istore (lv' := [(6, .int 7), (4, .long (0 : Int64)), (0, .ref q_M), (1, .int x1), (2, .long x2)]) hx hb dX11_shares_5 hl (by decide) rfl (fun ls hl => ?_)
  exact B7 zF (0 : Int64) 7 a_M_big _ _ _ (lv_sub hl [2, 3, 4, 1, 0] rfl) hP hD hS hg

/-! SpokenClockModel.limbs(I)I -/
abbrev ws_X11_limbs (cI cJ cZ cA : ClassId) (q_M q_M_big : Nat) (u_M_now : Value) (u_M_images : Value) (u_M_kept : Value) (u_M_text : Value) (u_M_size : Value) (u_M_sign : Value) (u_M_manyAbove : Value) (u_M_manyBelow : Value) (u_M_above : Value) (u_M_below : Value) (u_M_refused : Value) (u_M_at : Value) (u_M_begin : Value) (u_M_kind : Value) (u_M_value : Value) (u_M_read : Value) (u_M_acts : Value) (u_M_act : Value) (u_M_waits : Value) (u_M_wait : Value) (u_M_held : Value) (u_M_place : Value) (u_M_heap : Value) (u_M_clocks : Value) (u_M_counts : Value) (u_M_talking : Value) (u_M_most : Value) (u_M_hasA : Value) (u_M_hasB : Value) (u_M_talks : Value) (a_M_big : Nat → Int64) : va_W := [(q_M, .inr (11, [u_M_now, u_M_images, u_M_kept, u_M_text, u_M_size, u_M_sign, u_M_manyAbove, u_M_manyBelow, u_M_above, u_M_below, u_M_refused, u_M_at, u_M_begin, u_M_kind, u_M_value, u_M_read, u_M_acts, u_M_act, u_M_waits, u_M_wait, u_M_held, u_M_place, u_M_heap, u_M_clocks, u_M_counts, u_M_talking, u_M_most, u_M_hasA, u_M_hasB, u_M_talks, .ref q_M_big])), (q_M_big, .inl (cJ, 512, .inr (.inl a_M_big)))]
abbrev rm_X11_limbs : Room := { frames := 0, cells := 0, slots := 0, locals := 0 }
def g_X11_limbs_3b (a_M_big : Nat → Int64) (x1 : Int32) (k3 : Int32 → Option (Int32)) (x2 : Int32) : Option (Int32) :=
  if x2 ≤ 0 then (
    some (x2)
  ) else (
    if (((8 * x1) + x2) - 1) < 0 ∨ 512 ≤ (((8 * x1) + x2) - 1).toNatClampNeg then none else
    if (lg_cmp (a_M_big ((((8 * x1) + x2) - 1).toNatClampNeg)) (0 : Int64)) = 0 then (
      k3 (x2 + (-1))
    ) else (
      some (x2)
    )
  )
def g_X11_limbs_3 (a_M_big : Nat → Int64) (x1 : Int32) : Nat → Int32 → Option (Int32)
  | 0, _ => none
  | n + 1, x2 => g_X11_limbs_3b a_M_big x1 (g_X11_limbs_3 a_M_big x1 n) x2
def g_X11_limbs (a_M_big : Nat → Int64) (x1 : Int32) : Option (Int32) :=
  g_X11_limbs_3 a_M_big x1 zF 8
theorem hd_X11_limbs : yX11_limbs.cls = RX11 ∧ yX11_limbs.cls ≠ "java/lang/invoke/MethodHandle" ∧ yX11_limbs.cls ≠ "java/lang/invoke/VarHandle" ∧ (parseMethodDescriptor yX11_limbs.desc).map (fun d => d.parameters.length) = some 1 := by decide +kernel
set_option maxHeartbeats 4000000 in
set_option maxRecDepth 100000 in
theorem c_X11_limbs (l : Launch) (D : va_G) (cI cJ cZ cA : ClassId) (ga : Nat → Nat) (q_M q_M_big : Nat) (u_M_now : Value) (u_M_images : Value) (u_M_kept : Value) (u_M_text : Value) (u_M_size : Value) (u_M_sign : Value) (u_M_manyAbove : Value) (u_M_manyBelow : Value) (u_M_above : Value) (u_M_below : Value) (u_M_refused : Value) (u_M_at : Value) (u_M_begin : Value) (u_M_kind : Value) (u_M_value : Value) (u_M_read : Value) (u_M_acts : Value) (u_M_act : Value) (u_M_waits : Value) (u_M_wait : Value) (u_M_held : Value) (u_M_place : Value) (u_M_heap : Value) (u_M_clocks : Value) (u_M_counts : Value) (u_M_talking : Value) (u_M_most : Value) (u_M_hasA : Value) (u_M_hasB : Value) (u_M_talks : Value) (a_M_big : Nat → Int64) (x1 : Int32) (o : Int32) (hg : g_X11_limbs a_M_big x1 = some o) : zM l yX11_limbs (Cond.code yX11_limbs cX11_limbs 3 (some .int) :: wsL_law) rm_X11_limbs D (zTy cI cJ cZ cA) ga [.ref q_M, .int x1] (ws_X11_limbs cI cJ cZ cA q_M q_M_big u_M_now u_M_images u_M_kept u_M_text u_M_size u_M_sign u_M_manyAbove u_M_manyBelow u_M_above u_M_below u_M_refused u_M_at u_M_begin u_M_kind u_M_value u_M_read u_M_acts u_M_act u_M_waits u_M_wait u_M_held u_M_place u_M_heap u_M_clocks u_M_counts u_M_talking u_M_most u_M_hasA u_M_hasB u_M_talks a_M_big) (ws_X11_limbs cI cJ cZ cA q_M q_M_big u_M_now u_M_images u_M_kept u_M_text u_M_size u_M_sign u_M_manyAbove u_M_manyBelow u_M_above u_M_below u_M_refused u_M_at u_M_begin u_M_kind u_M_value u_M_read u_M_acts u_M_act u_M_waits u_M_wait u_M_held u_M_place u_M_heap u_M_clocks u_M_counts u_M_talking u_M_most u_M_hasA u_M_hasB u_M_talks a_M_big) (some (.int o)) := by
  refine zenterI (own := RX11) (by decide) rfl rfl (Nat.le_of_ble_eq_true rfl) ?_
  intro p e s m args below meth c A ls Q S hA hK hG hl hP hD hS hret0
  have hx := S.1
  have hb := S.2.1
  have ht : ∀ w, w ∈ wsL_law → w.before args s = true := fun w h => S.2.2.2.2 w (List.mem_cons_of_mem _ h)
  have hret : ∀ (r9 : Int32), (some (r9) : Option (Int32)) = some o → ∀ (H : Heap) (locs : List Loc) (pc : Nat) (ls : Array Slot), va_P D vwCl (ws_X11_limbs cI cJ cZ cA q_M q_M_big u_M_now u_M_images u_M_kept u_M_text u_M_size u_M_sign u_M_manyAbove u_M_manyBelow u_M_above u_M_below u_M_refused u_M_at u_M_begin u_M_kind u_M_value u_M_read u_M_acts u_M_act u_M_waits u_M_wait u_M_held u_M_place u_M_heap u_M_clocks u_M_counts u_M_talking u_M_most u_M_hasA u_M_hasB u_M_talks a_M_big) H → va_S A s.heap H locs → decode cX11_limbs pc = .ok (.ireturn, 1) → W p l e rm_X11_limbs s m args below meth c H locs 0 0 Q (F0 m pc ls [.int r9]) := by
    intro r9 he; cases he; exact hret0
  have hl : lv_has ls 3 [(0, .ref q_M), (1, .int x1)] := hl
  have B3 : ∀  (n : Nat) (x2 : Int32) (H : Heap) (locs : List Loc) (ls : Array Slot) (hl : lv_has ls 3 [(0, .ref q_M), (1, .int x1), (2, .int x2)]) (hP : va_P D vwCl (ws_X11_limbs cI cJ cZ cA q_M q_M_big u_M_now u_M_images u_M_kept u_M_text u_M_size u_M_sign u_M_manyAbove u_M_manyBelow u_M_above u_M_below u_M_refused u_M_at u_M_begin u_M_kind u_M_value u_M_read u_M_acts u_M_act u_M_waits u_M_wait u_M_held u_M_place u_M_heap u_M_clocks u_M_counts u_M_talking u_M_most u_M_hasA u_M_hasB u_M_talks a_M_big) H) (hD : va_D A (ws_X11_limbs cI cJ cZ cA q_M q_M_big u_M_now u_M_images u_M_kept u_M_text u_M_size u_M_sign u_M_manyAbove u_M_manyBelow u_M_above u_M_below u_M_refused u_M_at u_M_begin u_M_kind u_M_value u_M_read u_M_acts u_M_act u_M_waits u_M_wait u_M_held u_M_place u_M_heap u_M_clocks u_M_counts u_M_talking u_M_most u_M_hasA u_M_hasB u_M_talks a_M_big)) (hS : va_S A s.heap H locs), g_X11_limbs_3 a_M_big x1 n x2 = some o → W p l e rm_X11_limbs s m args below meth c H locs 0 0 Q (F0 m 3 ls []) := by
    intro  n
    induction n with
    | zero => intro x2 H locs ls hl hP hD hS hg; exact nomatch (show (none : Option (Int32)) = some o from hg)
    | succ n ih =>
      intro x2 H locs ls hl hP hD hS hg
      have hg : g_X11_limbs_3b a_M_big x1 (g_X11_limbs_3 a_M_big x1 n) x2 = some o := hg
      refine lv_iload_n hx hb dX11_limbs_3 rfl (lv_at hl 2 rfl) ?_
      refine lv_if_le (tgt := 31) hx hb dX11_limbs_4 (by decide) (fun h4 => ?_) (fun h4 => ?_)
      · have hg := zp hg h4
        refine lv_iload_n hx hb dX11_limbs_31 rfl (lv_at hl 2 rfl) ?_
        exact hret x2 hg _ _ _ _ hP hS dX11_limbs_32
      · have hg := zn hg h4
        refine lv_aload_n hx hb dX11_limbs_7 rfl (lv_at hl 0 rfl) ?_
        refine zget (C := RX11) (T := TX11) (N := 31) S hK hP 0 rfl rfl 30 (Nat.le_of_ble_eq_true rfl) zf_11 zw_169 rfl dX11_limbs_8 ?_
        refine lv_bipush (v := 8) hx hb dX11_limbs_11 (by decide) ?_
        refine lv_iload_n hx hb dX11_limbs_13 rfl (lv_at hl 1 rfl) ?_
        refine lv_imul hx hb dX11_limbs_14 ?_
        refine lv_iload_n hx hb dX11_limbs_15 rfl (lv_at hl 2 rfl) ?_
        refine lv_iadd hx hb dX11_limbs_16 ?_
        refine lv_iconst (v := 1) hx hb dX11_limbs_17 (by decide) ?_
        refine lv_isub hx hb dX11_limbs_18 ?_
        obtain ⟨h1, hg⟩ := zck hg
        refine zlald hx hb hK hP 1 1 rfl rfl (j := ((((8 * x1) + x2) - 1).toNatClampNeg)) h1 rfl dX11_limbs_19 ?_
        refine lv_lconst (v := 0) hx hb dX11_limbs_20 (by decide) ?_
        refine W.lcmp hx hb dX11_limbs_21 ?_
        refine lv_if_ne (tgt := 31) hx hb dX11_limbs_22 (by decide) (fun h22 => ?_) (fun h22 => ?_)
        · have hg := zn hg h22
          refine lv_iload_n hx hb dX11_limbs_31 rfl (lv_at hl 2 rfl) ?_
          exact hret x2 hg _ _ _ _ hP hS dX11_limbs_32
        · have hg := zp hg h22
          refine lv_iinc (k := 2) (v := x2 + (-1)) (lv' := [(2, .int (x2 + (-1))), (0, .ref q_M), (1, .int x1)]) hx hb dX11_limbs_25 hl rfl (zinc (by decide)) (by decide) rfl (fun ls hl => ?_)
          refine lv_goto (tgt := 3) hx hb dX11_limbs_28 (by decide) ?_
          exact ih (x2 + (-1)) _ _ _ (lv_sub hl [1, 2, 0] rfl) hP hD hS hg
  refine lv_bipush (v := 8) hx hb dX11_limbs_0 (by decide) ?_
  refine lv_istore_n (lv' := [(2, .int 8), (0, .ref q_M), (1, .int x1)]) hx hb dX11_limbs_2 rfl hl (by decide) rfl (fun ls hl => ?_)
  exact B3 zF 8 _ _ _ (lv_sub hl [1, 2, 0] rfl) hP hD hS hg

/-! SpokenClockModel.night(III)I -/
abbrev ws_X11_night (cI cJ cZ cA : ClassId) (q_M q_M_refused q_M_big q_M_above q_M_below : Nat) (u_M_now : Value) (u_M_images : Value) (u_M_kept : Value) (u_M_text : Value) (u_M_size : Value) (u_M_at : Value) (u_M_begin : Value) (u_M_kind : Value) (u_M_value : Value) (u_M_read : Value) (u_M_acts : Value) (u_M_act : Value) (u_M_waits : Value) (u_M_wait : Value) (u_M_held : Value) (u_M_place : Value) (u_M_heap : Value) (u_M_clocks : Value) (u_M_counts : Value) (u_M_talking : Value) (u_M_most : Value) (u_M_hasA : Value) (u_M_hasB : Value) (u_M_talks : Value) (v_M_sign : Int32) (v_M_manyAbove : Int32) (v_M_manyBelow : Int32) (a_M_refused : Nat → Int32) (a_M_big : Nat → Int64) (a_M_above : Nat → Int32) (a_M_below : Nat → Int32) : va_W := [(q_M, .inr (11, [u_M_now, u_M_images, u_M_kept, u_M_text, u_M_size, .int v_M_sign, .int v_M_manyAbove, .int v_M_manyBelow, .ref q_M_above, .ref q_M_below, .ref q_M_refused, u_M_at, u_M_begin, u_M_kind, u_M_value, u_M_read, u_M_acts, u_M_act, u_M_waits, u_M_wait, u_M_held, u_M_place, u_M_heap, u_M_clocks, u_M_counts, u_M_talking, u_M_most, u_M_hasA, u_M_hasB, u_M_talks, .ref q_M_big])), (q_M_refused, .inl (cI, 3, .inl a_M_refused)), (q_M_big, .inl (cJ, 512, .inr (.inl a_M_big))), (q_M_above, .inl (cI, 8, .inl a_M_above)), (q_M_below, .inl (cI, 8, .inl a_M_below))]
abbrev rm_X11_night : Room := { frames := 1, cells := 0, slots := 0, locals := 29 }
def g_X11_night_36 (x1 : Int32) (x2 : Int32) (x3 : Int32) (v_M_sign : Int32) (v_M_manyAbove : Int32) (v_M_manyBelow : Int32) (a_M_refused : Nat → Int32) (a_M_big : Nat → Int64) (a_M_above : Nat → Int32) (a_M_below : Nat → Int32) : Option (Int32 × Int32 × Int32 × Int32 × (Nat → Int32) × (Nat → Int64) × (Nat → Int32) × (Nat → Int32)) :=
  (g_X11_refuse (-2) a_M_refused).bind fun v3 =>
  some (v3.1, v_M_sign, v_M_manyAbove, v_M_manyBelow, v3.2, a_M_big, a_M_above, a_M_below)
def g_X11_night_324b (x1 : Int32) (x2 : Int32) (x3 : Int32) (k324 : Int32 → Int32 → Int32 → Int32 → (Nat → Int32) → (Nat → Int64) → (Nat → Int32) → (Nat → Int32) → Option (Int32 × Int32 × Int32 × Int32 × (Nat → Int32) × (Nat → Int64) × (Nat → Int32) × (Nat → Int32))) (x4 : Int32) (v_M_sign : Int32) (v_M_manyAbove : Int32) (v_M_manyBelow : Int32) (a_M_refused : Nat → Int32) (a_M_big : Nat → Int64) (a_M_above : Nat → Int32) (a_M_below : Nat → Int32) : Option (Int32 × Int32 × Int32 × Int32 × (Nat → Int32) × (Nat → Int64) × (Nat → Int32) × (Nat → Int32)) :=
  if 8 ≤ x4 then (
    some (1, v_M_sign, v_M_manyAbove, v_M_manyBelow, a_M_refused, a_M_big, a_M_above, a_M_below)
  ) else (
    if (488 + x4) < 0 ∨ 512 ≤ (488 + x4).toNatClampNeg then none else
    if x4 < 0 ∨ 8 ≤ x4.toNatClampNeg then none else
    if (496 + x4) < 0 ∨ 512 ≤ (496 + x4).toNatClampNeg then none else
    if x4 < 0 ∨ 8 ≤ x4.toNatClampNeg then none else
    k324 (x4 + 1) v_M_sign v_M_manyAbove v_M_manyBelow a_M_refused a_M_big (upd a_M_above (x4.toNatClampNeg) ((a_M_big ((488 + x4).toNatClampNeg)).toInt32)) (upd a_M_below (x4.toNatClampNeg) ((a_M_big ((496 + x4).toNatClampNeg)).toInt32))
  )
def g_X11_night_324 (x1 : Int32) (x2 : Int32) (x3 : Int32) : Nat → Int32 → Int32 → Int32 → Int32 → (Nat → Int32) → (Nat → Int64) → (Nat → Int32) → (Nat → Int32) → Option (Int32 × Int32 × Int32 × Int32 × (Nat → Int32) × (Nat → Int64) × (Nat → Int32) × (Nat → Int32))
  | 0, _, _, _, _, _, _, _, _ => none
  | n + 1, x4, v_M_sign, v_M_manyAbove, v_M_manyBelow, a_M_refused, a_M_big, a_M_above, a_M_below => g_X11_night_324b x1 x2 x3 (g_X11_night_324 x1 x2 x3 n) x4 v_M_sign v_M_manyAbove v_M_manyBelow a_M_refused a_M_big a_M_above a_M_below
def g_X11_night_318 (x1 : Int32) (x2 : Int32) (x3 : Int32) (t1 : Int32) (v_M_sign : Int32) (v_M_manyAbove : Int32) (v_M_manyBelow : Int32) (a_M_refused : Nat → Int32) (a_M_big : Nat → Int64) (a_M_above : Nat → Int32) (a_M_below : Nat → Int32) : Option (Int32 × Int32 × Int32 × Int32 × (Nat → Int32) × (Nat → Int64) × (Nat → Int32) × (Nat → Int32)) :=
  g_X11_night_324 x1 x2 x3 zF 0 t1 v_M_manyAbove v_M_manyBelow a_M_refused a_M_big a_M_above a_M_below
def g_X11_night_274 (x1 : Int32) (x2 : Int32) (x3 : Int32) (k211 : Int64 → Int32 → Int32 → Int32 → (Nat → Int32) → (Nat → Int64) → (Nat → Int32) → (Nat → Int32) → Option (Int32 × Int32 × Int32 × Int32 × (Nat → Int32) × (Nat → Int64) × (Nat → Int32) × (Nat → Int32))) (x4 : Int64) (v_M_sign : Int32) (v_M_manyAbove : Int32) (v_M_manyBelow : Int32) (a_M_refused : Nat → Int32) (a_M_big : Nat → Int64) (a_M_above : Nat → Int32) (a_M_below : Nat → Int32) : Option (Int32 × Int32 × Int32 × Int32 × (Nat → Int32) × (Nat → Int64) × (Nat → Int32) × (Nat → Int32)) :=
  k211 (x4 + (3 : Int64)) v_M_sign v_M_manyAbove v_M_manyBelow a_M_refused a_M_big a_M_above a_M_below
def g_X11_night_220b (x1 : Int32) (x2 : Int32) (x3 : Int32) (k211 : Int64 → Int32 → Int32 → Int32 → (Nat → Int32) → (Nat → Int64) → (Nat → Int32) → (Nat → Int32) → Option (Int32 × Int32 × Int32 × Int32 × (Nat → Int32) × (Nat → Int64) × (Nat → Int32) × (Nat → Int32))) (k220 : Int64 → Int32 → Int32 → Int32 → (Nat → Int32) → (Nat → Int64) → (Nat → Int32) → (Nat → Int32) → Option (Int32 × Int32 × Int32 × Int32 × (Nat → Int32) × (Nat → Int64) × (Nat → Int32) × (Nat → Int32))) (x4 : Int64) (v_M_sign : Int32) (v_M_manyAbove : Int32) (v_M_manyBelow : Int32) (a_M_refused : Nat → Int32) (a_M_big : Nat → Int64) (a_M_above : Nat → Int32) (a_M_below : Nat → Int32) : Option (Int32 × Int32 × Int32 × Int32 × (Nat → Int32) × (Nat → Int64) × (Nat → Int32) × (Nat → Int32)) :=
  (g_X11_limbs a_M_big 61).bind fun v19 =>
  if v19 ≤ 0 then (
    g_X11_night_274 x1 x2 x3 k211 x4 v_M_sign v_M_manyAbove v_M_manyBelow a_M_refused a_M_big a_M_above a_M_below
  ) else (
    (g_X11_restOf a_M_big 61 x4).bind fun v21 =>
    if (lg_cmp v21 (0 : Int64)) = 0 then (
      (g_X11_restOf a_M_big 62 x4).bind fun v23 =>
      if (lg_cmp v23 (0 : Int64)) = 0 then (
        (g_X11_shares 61 x4 a_M_big).bind fun v25 =>
        (g_X11_shares 62 x4 v25).bind fun v27 =>
        k220 x4 v_M_sign v_M_manyAbove v_M_manyBelow a_M_refused v27 a_M_above a_M_below
      ) else (
        g_X11_night_274 x1 x2 x3 k211 x4 v_M_sign v_M_manyAbove v_M_manyBelow a_M_refused a_M_big a_M_above a_M_below
      )
    ) else (
      g_X11_night_274 x1 x2 x3 k211 x4 v_M_sign v_M_manyAbove v_M_manyBelow a_M_refused a_M_big a_M_above a_M_below
    )
  )
def g_X11_night_220 (x1 : Int32) (x2 : Int32) (x3 : Int32) (k211 : Int64 → Int32 → Int32 → Int32 → (Nat → Int32) → (Nat → Int64) → (Nat → Int32) → (Nat → Int32) → Option (Int32 × Int32 × Int32 × Int32 × (Nat → Int32) × (Nat → Int64) × (Nat → Int32) × (Nat → Int32))) : Nat → Int64 → Int32 → Int32 → Int32 → (Nat → Int32) → (Nat → Int64) → (Nat → Int32) → (Nat → Int32) → Option (Int32 × Int32 × Int32 × Int32 × (Nat → Int32) × (Nat → Int64) × (Nat → Int32) × (Nat → Int32))
  | 0, _, _, _, _, _, _, _, _ => none
  | n + 1, x4, v_M_sign, v_M_manyAbove, v_M_manyBelow, a_M_refused, a_M_big, a_M_above, a_M_below => g_X11_night_220b x1 x2 x3 k211 (g_X11_night_220 x1 x2 x3 k211 n) x4 v_M_sign v_M_manyAbove v_M_manyBelow a_M_refused a_M_big a_M_above a_M_below
def g_X11_night_211b (x1 : Int32) (x2 : Int32) (x3 : Int32) (k211 : Int64 → Int32 → Int32 → Int32 → (Nat → Int32) → (Nat → Int64) → (Nat → Int32) → (Nat → Int32) → Option (Int32 × Int32 × Int32 × Int32 × (Nat → Int32) × (Nat → Int64) × (Nat → Int32) × (Nat → Int32))) (x4 : Int64) (v_M_sign : Int32) (v_M_manyAbove : Int32) (v_M_manyBelow : Int32) (a_M_refused : Nat → Int32) (a_M_big : Nat → Int64) (a_M_above : Nat → Int32) (a_M_below : Nat → Int32) : Option (Int32 × Int32 × Int32 × Int32 × (Nat → Int32) × (Nat → Int64) × (Nat → Int32) × (Nat → Int32)) :=
  if 0 ≤ (lg_cmp x4 (6 : Int64)) then (
    (g_X11_limbs a_M_big 61).bind fun v11 =>
    (g_X11_limbs a_M_big 62).bind fun v13 =>
    if v11 = 0 then (
      g_X11_night_318 x1 x2 x3 0 v_M_sign v11 v13 a_M_refused a_M_big a_M_above a_M_below
    ) else (
      g_X11_night_318 x1 x2 x3 1 v_M_sign v11 v13 a_M_refused a_M_big a_M_above a_M_below
    )
  ) else (
    g_X11_night_220 x1 x2 x3 k211 zF x4 v_M_sign v_M_manyAbove v_M_manyBelow a_M_refused a_M_big a_M_above a_M_below
  )
def g_X11_night_211 (x1 : Int32) (x2 : Int32) (x3 : Int32) : Nat → Int64 → Int32 → Int32 → Int32 → (Nat → Int32) → (Nat → Int64) → (Nat → Int32) → (Nat → Int32) → Option (Int32 × Int32 × Int32 × Int32 × (Nat → Int32) × (Nat → Int64) × (Nat → Int32) × (Nat → Int32))
  | 0, _, _, _, _, _, _, _, _ => none
  | n + 1, x4, v_M_sign, v_M_manyAbove, v_M_manyBelow, a_M_refused, a_M_big, a_M_above, a_M_below => g_X11_night_211b x1 x2 x3 (g_X11_night_211 x1 x2 x3 n) x4 v_M_sign v_M_manyAbove v_M_manyBelow a_M_refused a_M_big a_M_above a_M_below
def g_X11_night_206 (x1 : Int32) (x2 : Int32) (x3 : Int32) (v_M_sign : Int32) (v_M_manyAbove : Int32) (v_M_manyBelow : Int32) (a_M_refused : Nat → Int32) (a_M_big : Nat → Int64) (a_M_above : Nat → Int32) (a_M_below : Nat → Int32) : Option (Int32 × Int32 × Int32 × Int32 × (Nat → Int32) × (Nat → Int64) × (Nat → Int32) × (Nat → Int32)) :=
  g_X11_night_211 x1 x2 x3 zF (2 : Int64) v_M_sign v_M_manyAbove v_M_manyBelow a_M_refused a_M_big a_M_above a_M_below
def g_X11_night_156b (x1 : Int32) (x2 : Int32) (x3 : Int32) (k156 : Int32 → Int32 → Int32 → Int32 → (Nat → Int32) → (Nat → Int64) → (Nat → Int32) → (Nat → Int32) → Option (Int32 × Int32 × Int32 × Int32 × (Nat → Int32) × (Nat → Int64) × (Nat → Int32) × (Nat → Int32))) (x4 : Int32) (v_M_sign : Int32) (v_M_manyAbove : Int32) (v_M_manyBelow : Int32) (a_M_refused : Nat → Int32) (a_M_big : Nat → Int64) (a_M_above : Nat → Int32) (a_M_below : Nat → Int32) : Option (Int32 × Int32 × Int32 × Int32 × (Nat → Int32) × (Nat → Int64) × (Nat → Int32) × (Nat → Int32)) :=
  if x1 < x4 then (
    (g_X11_limbs a_M_big 61).bind fun v9 =>
    if v9 = 0 then (
      (g_X11_mixes 62 (0 : Int64) 63 (0 : Int64) a_M_big).bind fun v29 =>
      g_X11_night_206 x1 x2 x3 v_M_sign v_M_manyAbove v_M_manyBelow a_M_refused (vp_updL v29 496 (1 : Int64)) a_M_above a_M_below
    ) else (
      g_X11_night_206 x1 x2 x3 v_M_sign v_M_manyAbove v_M_manyBelow a_M_refused a_M_big a_M_above a_M_below
    )
  ) else (
    (g_X11_mixes 61 (1 : Int64) x4 (1 : Int64) a_M_big).bind fun v31 =>
    k156 (x4 + 1) v_M_sign v_M_manyAbove v_M_manyBelow a_M_refused v31 a_M_above a_M_below
  )
def g_X11_night_156 (x1 : Int32) (x2 : Int32) (x3 : Int32) : Nat → Int32 → Int32 → Int32 → Int32 → (Nat → Int32) → (Nat → Int64) → (Nat → Int32) → (Nat → Int32) → Option (Int32 × Int32 × Int32 × Int32 × (Nat → Int32) × (Nat → Int64) × (Nat → Int32) × (Nat → Int32))
  | 0, _, _, _, _, _, _, _, _ => none
  | n + 1, x4, v_M_sign, v_M_manyAbove, v_M_manyBelow, a_M_refused, a_M_big, a_M_above, a_M_below => g_X11_night_156b x1 x2 x3 (g_X11_night_156 x1 x2 x3 n) x4 v_M_sign v_M_manyAbove v_M_manyBelow a_M_refused a_M_big a_M_above a_M_below
def g_X11_night_124 (x1 : Int32) (x2 : Int32) (x3 : Int32) (k87 : Int32 → Int32 → Int32 → Int32 → (Nat → Int32) → (Nat → Int64) → (Nat → Int32) → (Nat → Int32) → Option (Int32 × Int32 × Int32 × Int32 × (Nat → Int32) × (Nat → Int64) × (Nat → Int32) × (Nat → Int32))) (k97 : Int32 → Int32 → Int32 → Int32 → Int32 → (Nat → Int32) → (Nat → Int64) → (Nat → Int32) → (Nat → Int32) → Option (Int32 × Int32 × Int32 × Int32 × (Nat → Int32) × (Nat → Int64) × (Nat → Int32) × (Nat → Int32))) (x4 : Int32) (x5 : Int32) (t1 : Int32) (t2 : Int64) (t3 : Int32) (v_M_sign : Int32) (v_M_manyAbove : Int32) (v_M_manyBelow : Int32) (a_M_refused : Nat → Int32) (a_M_big : Nat → Int64) (a_M_above : Nat → Int32) (a_M_below : Nat → Int32) : Option (Int32 × Int32 × Int32 × Int32 × (Nat → Int32) × (Nat → Int64) × (Nat → Int32) × (Nat → Int32)) :=
  (g_X11_mixes t1 t2 t3 x2.toInt64 a_M_big).bind fun v35 =>
  k97 x4 (x5 + (-1)) v_M_sign v_M_manyAbove v_M_manyBelow a_M_refused v35 a_M_above a_M_below
def g_X11_night_97b (x1 : Int32) (x2 : Int32) (x3 : Int32) (k87 : Int32 → Int32 → Int32 → Int32 → (Nat → Int32) → (Nat → Int64) → (Nat → Int32) → (Nat → Int32) → Option (Int32 × Int32 × Int32 × Int32 × (Nat → Int32) × (Nat → Int64) × (Nat → Int32) × (Nat → Int32))) (k97 : Int32 → Int32 → Int32 → Int32 → Int32 → (Nat → Int32) → (Nat → Int64) → (Nat → Int32) → (Nat → Int32) → Option (Int32 × Int32 × Int32 × Int32 × (Nat → Int32) × (Nat → Int64) × (Nat → Int32) × (Nat → Int32))) (x4 : Int32) (x5 : Int32) (v_M_sign : Int32) (v_M_manyAbove : Int32) (v_M_manyBelow : Int32) (a_M_refused : Nat → Int32) (a_M_big : Nat → Int64) (a_M_above : Nat → Int32) (a_M_below : Nat → Int32) : Option (Int32 × Int32 × Int32 × Int32 × (Nat → Int32) × (Nat → Int64) × (Nat → Int32) × (Nat → Int32)) :=
  if x5 < 0 then (
    (g_X11_mixes 62 (10 : Int64) 63 (0 : Int64) a_M_big).bind fun v33 =>
    k87 (x4 + 1) v_M_sign v_M_manyAbove v_M_manyBelow a_M_refused v33 a_M_above a_M_below
  ) else (
    if x5 = 0 then (
      g_X11_night_124 x1 x2 x3 k87 k97 x4 x5 x5 ((10 - x2).toInt64) 63 v_M_sign v_M_manyAbove v_M_manyBelow a_M_refused a_M_big a_M_above a_M_below
    ) else (
      g_X11_night_124 x1 x2 x3 k87 k97 x4 x5 x5 ((10 - x2).toInt64) (x5 - 1) v_M_sign v_M_manyAbove v_M_manyBelow a_M_refused a_M_big a_M_above a_M_below
    )
  )
def g_X11_night_97 (x1 : Int32) (x2 : Int32) (x3 : Int32) (k87 : Int32 → Int32 → Int32 → Int32 → (Nat → Int32) → (Nat → Int64) → (Nat → Int32) → (Nat → Int32) → Option (Int32 × Int32 × Int32 × Int32 × (Nat → Int32) × (Nat → Int64) × (Nat → Int32) × (Nat → Int32))) : Nat → Int32 → Int32 → Int32 → Int32 → Int32 → (Nat → Int32) → (Nat → Int64) → (Nat → Int32) → (Nat → Int32) → Option (Int32 × Int32 × Int32 × Int32 × (Nat → Int32) × (Nat → Int64) × (Nat → Int32) × (Nat → Int32))
  | 0, _, _, _, _, _, _, _, _, _ => none
  | n + 1, x4, x5, v_M_sign, v_M_manyAbove, v_M_manyBelow, a_M_refused, a_M_big, a_M_above, a_M_below => g_X11_night_97b x1 x2 x3 k87 (g_X11_night_97 x1 x2 x3 k87 n) x4 x5 v_M_sign v_M_manyAbove v_M_manyBelow a_M_refused a_M_big a_M_above a_M_below
def g_X11_night_87b (x1 : Int32) (x2 : Int32) (x3 : Int32) (k87 : Int32 → Int32 → Int32 → Int32 → (Nat → Int32) → (Nat → Int64) → (Nat → Int32) → (Nat → Int32) → Option (Int32 × Int32 × Int32 × Int32 × (Nat → Int32) × (Nat → Int64) × (Nat → Int32) × (Nat → Int32))) (x4 : Int32) (v_M_sign : Int32) (v_M_manyAbove : Int32) (v_M_manyBelow : Int32) (a_M_refused : Nat → Int32) (a_M_big : Nat → Int64) (a_M_above : Nat → Int32) (a_M_below : Nat → Int32) : Option (Int32 × Int32 × Int32 × Int32 × (Nat → Int32) × (Nat → Int64) × (Nat → Int32) × (Nat → Int32)) :=
  if x1 < x4 then (
    g_X11_night_156 x1 x2 x3 zF x3 v_M_sign v_M_manyAbove v_M_manyBelow a_M_refused a_M_big a_M_above a_M_below
  ) else (
    g_X11_night_97 x1 x2 x3 k87 zF x4 x4 v_M_sign v_M_manyAbove v_M_manyBelow a_M_refused a_M_big a_M_above a_M_below
  )
def g_X11_night_87 (x1 : Int32) (x2 : Int32) (x3 : Int32) : Nat → Int32 → Int32 → Int32 → Int32 → (Nat → Int32) → (Nat → Int64) → (Nat → Int32) → (Nat → Int32) → Option (Int32 × Int32 × Int32 × Int32 × (Nat → Int32) × (Nat → Int64) × (Nat → Int32) × (Nat → Int32))
  | 0, _, _, _, _, _, _, _, _ => none
  | n + 1, x4, v_M_sign, v_M_manyAbove, v_M_manyBelow, a_M_refused, a_M_big, a_M_above, a_M_below => g_X11_night_87b x1 x2 x3 (g_X11_night_87 x1 x2 x3 n) x4 v_M_sign v_M_manyAbove v_M_manyBelow a_M_refused a_M_big a_M_above a_M_below
def g_X11_night_46b (x1 : Int32) (x2 : Int32) (x3 : Int32) (k46 : Int32 → Int32 → Int32 → Int32 → (Nat → Int32) → (Nat → Int64) → (Nat → Int32) → (Nat → Int32) → Option (Int32 × Int32 × Int32 × Int32 × (Nat → Int32) × (Nat → Int64) × (Nat → Int32) × (Nat → Int32))) (x4 : Int32) (v_M_sign : Int32) (v_M_manyAbove : Int32) (v_M_manyBelow : Int32) (a_M_refused : Nat → Int32) (a_M_big : Nat → Int64) (a_M_above : Nat → Int32) (a_M_below : Nat → Int32) : Option (Int32 × Int32 × Int32 × Int32 × (Nat → Int32) × (Nat → Int64) × (Nat → Int32) × (Nat → Int32)) :=
  if 512 ≤ x4 then (
    g_X11_night_87 x1 x2 x3 zF 1 v_M_sign v_M_manyAbove v_M_manyBelow a_M_refused (vp_updL (vp_updL a_M_big 0 (1 : Int64)) 496 (1 : Int64)) a_M_above a_M_below
  ) else (
    if x4 < 0 ∨ 512 ≤ x4.toNatClampNeg then none else
    k46 (x4 + 1) v_M_sign v_M_manyAbove v_M_manyBelow a_M_refused (vp_updL a_M_big (x4.toNatClampNeg) (0 : Int64)) a_M_above a_M_below
  )
def g_X11_night_46 (x1 : Int32) (x2 : Int32) (x3 : Int32) : Nat → Int32 → Int32 → Int32 → Int32 → (Nat → Int32) → (Nat → Int64) → (Nat → Int32) → (Nat → Int32) → Option (Int32 × Int32 × Int32 × Int32 × (Nat → Int32) × (Nat → Int64) × (Nat → Int32) × (Nat → Int32))
  | 0, _, _, _, _, _, _, _, _ => none
  | n + 1, x4, v_M_sign, v_M_manyAbove, v_M_manyBelow, a_M_refused, a_M_big, a_M_above, a_M_below => g_X11_night_46b x1 x2 x3 (g_X11_night_46 x1 x2 x3 n) x4 v_M_sign v_M_manyAbove v_M_manyBelow a_M_refused a_M_big a_M_above a_M_below
def g_X11_night (x1 : Int32) (x2 : Int32) (x3 : Int32) (v_M_sign : Int32) (v_M_manyAbove : Int32) (v_M_manyBelow : Int32) (a_M_refused : Nat → Int32) (a_M_big : Nat → Int64) (a_M_above : Nat → Int32) (a_M_below : Nat → Int32) : Option (Int32 × Int32 × Int32 × Int32 × (Nat → Int32) × (Nat → Int64) × (Nat → Int32) × (Nat → Int32)) :=
  (g_X11_in x1.toInt64 (0 : Int64) (60 : Int64)).bind fun v1 =>
  if v1 = 0 then (
    g_X11_night_36 x1 x2 x3 v_M_sign v_M_manyAbove v_M_manyBelow a_M_refused a_M_big a_M_above a_M_below
  ) else (
    (g_X11_in x2.toInt64 (0 : Int64) (10 : Int64)).bind fun v5 =>
    if v5 = 0 then (
      g_X11_night_36 x1 x2 x3 v_M_sign v_M_manyAbove v_M_manyBelow a_M_refused a_M_big a_M_above a_M_below
    ) else (
      (g_X11_in x3.toInt64 (0 : Int64) (60 : Int64)).bind fun v7 =>
      if v7 = 0 then (
        g_X11_night_36 x1 x2 x3 v_M_sign v_M_manyAbove v_M_manyBelow a_M_refused a_M_big a_M_above a_M_below
      ) else (
        g_X11_night_46 x1 x2 x3 zF 0 v_M_sign v_M_manyAbove v_M_manyBelow a_M_refused a_M_big a_M_above a_M_below
      )
    )
  )
theorem hd_X11_night : yX11_night.cls = RX11 ∧ yX11_night.cls ≠ "java/lang/invoke/MethodHandle" ∧ yX11_night.cls ≠ "java/lang/invoke/VarHandle" ∧ (parseMethodDescriptor yX11_night.desc).map (fun d => d.parameters.length) = some 3 := by decide +kernel
set_option maxHeartbeats 4000000 in
set_option maxRecDepth 100000 in
theorem c_X11_night (l : Launch) (D : va_G) (cI cJ cZ cA : ClassId) (ga : Nat → Nat) (q_M q_M_refused q_M_big q_M_above q_M_below : Nat) (u_M_now : Value) (u_M_images : Value) (u_M_kept : Value) (u_M_text : Value) (u_M_size : Value) (u_M_at : Value) (u_M_begin : Value) (u_M_kind : Value) (u_M_value : Value) (u_M_read : Value) (u_M_acts : Value) (u_M_act : Value) (u_M_waits : Value) (u_M_wait : Value) (u_M_held : Value) (u_M_place : Value) (u_M_heap : Value) (u_M_clocks : Value) (u_M_counts : Value) (u_M_talking : Value) (u_M_most : Value) (u_M_hasA : Value) (u_M_hasB : Value) (u_M_talks : Value) (v_M_sign : Int32) (v_M_manyAbove : Int32) (v_M_manyBelow : Int32) (a_M_refused : Nat → Int32) (a_M_big : Nat → Int64) (a_M_above : Nat → Int32) (a_M_below : Nat → Int32) (x1 : Int32) (x2 : Int32) (x3 : Int32) (o : Int32 × Int32 × Int32 × Int32 × (Nat → Int32) × (Nat → Int64) × (Nat → Int32) × (Nat → Int32)) (hg : g_X11_night x1 x2 x3 v_M_sign v_M_manyAbove v_M_manyBelow a_M_refused a_M_big a_M_above a_M_below = some o) : zM l yX11_night (Cond.code yX11_night cX11_night 6 (some .int) :: wsL_law) rm_X11_night D (zTy cI cJ cZ cA) ga [.ref q_M, .int x1, .int x2, .int x3] (ws_X11_night cI cJ cZ cA q_M q_M_refused q_M_big q_M_above q_M_below u_M_now u_M_images u_M_kept u_M_text u_M_size u_M_at u_M_begin u_M_kind u_M_value u_M_read u_M_acts u_M_act u_M_waits u_M_wait u_M_held u_M_place u_M_heap u_M_clocks u_M_counts u_M_talking u_M_most u_M_hasA u_M_hasB u_M_talks v_M_sign v_M_manyAbove v_M_manyBelow a_M_refused a_M_big a_M_above a_M_below) (ws_X11_night cI cJ cZ cA q_M q_M_refused q_M_big q_M_above q_M_below u_M_now u_M_images u_M_kept u_M_text u_M_size u_M_at u_M_begin u_M_kind u_M_value u_M_read u_M_acts u_M_act u_M_waits u_M_wait u_M_held u_M_place u_M_heap u_M_clocks u_M_counts u_M_talking u_M_most u_M_hasA u_M_hasB u_M_talks o.2.1 o.2.2.1 o.2.2.2.1 o.2.2.2.2.1 o.2.2.2.2.2.1 o.2.2.2.2.2.2.1 o.2.2.2.2.2.2.2) (some (.int o.1)) := by
  refine zenterI (own := RX11) (by decide) rfl rfl (Nat.le_of_ble_eq_true rfl) ?_
  intro p e s m args below meth c A ls Q S hA hK hG hl hP hD hS hret0
  have hx := S.1
  have hb := S.2.1
  have ht : ∀ w, w ∈ wsL_law → w.before args s = true := fun w h => S.2.2.2.2 w (List.mem_cons_of_mem _ h)
  have hret : ∀ (r9 : Int32) (v_M_sign : Int32) (v_M_manyAbove : Int32) (v_M_manyBelow : Int32) (a_M_refused : Nat → Int32) (a_M_big : Nat → Int64) (a_M_above : Nat → Int32) (a_M_below : Nat → Int32), (some (r9, v_M_sign, v_M_manyAbove, v_M_manyBelow, a_M_refused, a_M_big, a_M_above, a_M_below) : Option (Int32 × Int32 × Int32 × Int32 × (Nat → Int32) × (Nat → Int64) × (Nat → Int32) × (Nat → Int32))) = some o → ∀ (H : Heap) (locs : List Loc) (pc : Nat) (ls : Array Slot), va_P D vwCl (ws_X11_night cI cJ cZ cA q_M q_M_refused q_M_big q_M_above q_M_below u_M_now u_M_images u_M_kept u_M_text u_M_size u_M_at u_M_begin u_M_kind u_M_value u_M_read u_M_acts u_M_act u_M_waits u_M_wait u_M_held u_M_place u_M_heap u_M_clocks u_M_counts u_M_talking u_M_most u_M_hasA u_M_hasB u_M_talks v_M_sign v_M_manyAbove v_M_manyBelow a_M_refused a_M_big a_M_above a_M_below) H → va_S A s.heap H locs → decode cX11_night pc = .ok (.ireturn, 1) → W p l e rm_X11_night s m args below meth c H locs 0 0 Q (F0 m pc ls [.int r9]) := by
    intro r9 v_M_sign v_M_manyAbove v_M_manyBelow a_M_refused a_M_big a_M_above a_M_below he; cases he; exact hret0
  have hl : lv_has ls 6 [(0, .ref q_M), (1, .int x1), (2, .int x2), (3, .int x3)] := hl
  have B36 : ∀ (v_M_sign : Int32) (v_M_manyAbove : Int32) (v_M_manyBelow : Int32) (a_M_refused : Nat → Int32) (a_M_big : Nat → Int64) (a_M_above : Nat → Int32) (a_M_below : Nat → Int32) (H : Heap) (locs : List Loc) (ls : Array Slot) (hl : lv_has ls 6 [(0, .ref q_M)]) (hP : va_P D vwCl (ws_X11_night cI cJ cZ cA q_M q_M_refused q_M_big q_M_above q_M_below u_M_now u_M_images u_M_kept u_M_text u_M_size u_M_at u_M_begin u_M_kind u_M_value u_M_read u_M_acts u_M_act u_M_waits u_M_wait u_M_held u_M_place u_M_heap u_M_clocks u_M_counts u_M_talking u_M_most u_M_hasA u_M_hasB u_M_talks v_M_sign v_M_manyAbove v_M_manyBelow a_M_refused a_M_big a_M_above a_M_below) H) (hD : va_D A (ws_X11_night cI cJ cZ cA q_M q_M_refused q_M_big q_M_above q_M_below u_M_now u_M_images u_M_kept u_M_text u_M_size u_M_at u_M_begin u_M_kind u_M_value u_M_read u_M_acts u_M_act u_M_waits u_M_wait u_M_held u_M_place u_M_heap u_M_clocks u_M_counts u_M_talking u_M_most u_M_hasA u_M_hasB u_M_talks v_M_sign v_M_manyAbove v_M_manyBelow a_M_refused a_M_big a_M_above a_M_below)) (hS : va_S A s.heap H locs), g_X11_night_36 x1 x2 x3 v_M_sign v_M_manyAbove v_M_manyBelow a_M_refused a_M_big a_M_above a_M_below = some o → W p l e rm_X11_night s m args below meth c H locs 0 0 Q (F0 m 36 ls []) := by
    intro  v_M_sign v_M_manyAbove v_M_manyBelow a_M_refused a_M_big a_M_above a_M_below H locs ls hl hP hD hS hg
    refine lv_aload_n hx hb dX11_night_36 rfl (lv_at hl 0 rfl) ?_
    refine lv_bipush (v := (-2)) hx hb dX11_night_37 (by decide) ?_
    obtain ⟨v3, hc4, hg⟩ := zbd hg
    refine zcallV (rest := []) S (c_X11_refuse l D cI cJ cZ cA ga q_M q_M_refused u_M_now u_M_images u_M_kept u_M_text u_M_size (.int v_M_sign) (.int v_M_manyAbove) (.int v_M_manyBelow) (.ref q_M_above) (.ref q_M_below) u_M_at u_M_begin u_M_kind u_M_value u_M_read u_M_acts u_M_act u_M_waits u_M_wait u_M_held u_M_place u_M_heap u_M_clocks u_M_counts u_M_talking u_M_most u_M_hasA u_M_hasB u_M_talks (.ref q_M_big) a_M_refused (-2) v3 hc4) (zgV zw_223 zw_224 zw_225 zw_5 zw_226) rfl hd_X11_refuse ⟨rfl, rfl⟩ ⟨Nat.le_of_ble_eq_true rfl, Nat.le_of_ble_eq_true rfl⟩ 0 11 rfl rfl rfl hl.1 rfl (Nat.le_of_ble_eq_true rfl) dX11_night_39 hP hD hS hA hK hG (isC := [0, 1]) rfl (by decide +kernel) rfl ⟨Nat.zero_le _, Nat.zero_le _⟩ (pl := [some 0, some 1, none, none, none]) (nw := 5) rfl (by decide +kernel) (w2 := (ws_X11_night cI cJ cZ cA q_M q_M_refused q_M_big q_M_above q_M_below u_M_now u_M_images u_M_kept u_M_text u_M_size u_M_at u_M_begin u_M_kind u_M_value u_M_read u_M_acts u_M_act u_M_waits u_M_wait u_M_held u_M_place u_M_heap u_M_clocks u_M_counts u_M_talking u_M_most u_M_hasA u_M_hasB u_M_talks v_M_sign v_M_manyAbove v_M_manyBelow v3.2 a_M_big a_M_above a_M_below)) rfl (st1 := [.int v3.1]) rfl (fun H locs hP hD hS => ?_)
    exact hret v3.1 v_M_sign v_M_manyAbove v_M_manyBelow v3.2 a_M_big a_M_above a_M_below hg _ _ _ _ hP hS dX11_night_42
  have B324 : ∀  (n : Nat) (x4 : Int32) (v_M_sign : Int32) (v_M_manyAbove : Int32) (v_M_manyBelow : Int32) (a_M_refused : Nat → Int32) (a_M_big : Nat → Int64) (a_M_above : Nat → Int32) (a_M_below : Nat → Int32) (H : Heap) (locs : List Loc) (ls : Array Slot) (hl : lv_has ls 6 [(0, .ref q_M), (4, .int x4)]) (hP : va_P D vwCl (ws_X11_night cI cJ cZ cA q_M q_M_refused q_M_big q_M_above q_M_below u_M_now u_M_images u_M_kept u_M_text u_M_size u_M_at u_M_begin u_M_kind u_M_value u_M_read u_M_acts u_M_act u_M_waits u_M_wait u_M_held u_M_place u_M_heap u_M_clocks u_M_counts u_M_talking u_M_most u_M_hasA u_M_hasB u_M_talks v_M_sign v_M_manyAbove v_M_manyBelow a_M_refused a_M_big a_M_above a_M_below) H) (hD : va_D A (ws_X11_night cI cJ cZ cA q_M q_M_refused q_M_big q_M_above q_M_below u_M_now u_M_images u_M_kept u_M_text u_M_size u_M_at u_M_begin u_M_kind u_M_value u_M_read u_M_acts u_M_act u_M_waits u_M_wait u_M_held u_M_place u_M_heap u_M_clocks u_M_counts u_M_talking u_M_most u_M_hasA u_M_hasB u_M_talks v_M_sign v_M_manyAbove v_M_manyBelow a_M_refused a_M_big a_M_above a_M_below)) (hS : va_S A s.heap H locs), g_X11_night_324 x1 x2 x3 n x4 v_M_sign v_M_manyAbove v_M_manyBelow a_M_refused a_M_big a_M_above a_M_below = some o → W p l e rm_X11_night s m args below meth c H locs 0 0 Q (F0 m 324 ls []) := by
    intro  n
    induction n with
    | zero => intro x4 v_M_sign v_M_manyAbove v_M_manyBelow a_M_refused a_M_big a_M_above a_M_below H locs ls hl hP hD hS hg; exact nomatch (show (none : Option (Int32 × Int32 × Int32 × Int32 × (Nat → Int32) × (Nat → Int64) × (Nat → Int32) × (Nat → Int32))) = some o from hg)
    | succ n ih =>
      intro x4 v_M_sign v_M_manyAbove v_M_manyBelow a_M_refused a_M_big a_M_above a_M_below H locs ls hl hP hD hS hg
      have hg : g_X11_night_324b x1 x2 x3 (g_X11_night_324 x1 x2 x3 n) x4 v_M_sign v_M_manyAbove v_M_manyBelow a_M_refused a_M_big a_M_above a_M_below = some o := hg
      refine lv_iload hx hb dX11_night_324 (lv_at hl 1 rfl) ?_
      refine lv_bipush (v := 8) hx hb dX11_night_326 (by decide) ?_
      refine lv_icmp_ge (tgt := 375) hx hb dX11_night_328 (by decide) (fun h328 => ?_) (fun h328 => ?_)
      · have hg := zp hg h328
        refine lv_iconst (v := 1) hx hb dX11_night_375 (by decide) ?_
        exact hret 1 v_M_sign v_M_manyAbove v_M_manyBelow a_M_refused a_M_big a_M_above a_M_below hg _ _ _ _ hP hS dX11_night_376
      · have hg := zn hg h328
        refine lv_aload_n hx hb dX11_night_331 rfl (lv_at hl 0 rfl) ?_
        refine zget (C := RX11) (T := TX11) (N := 31) S hK hP 0 rfl rfl 8 (Nat.le_of_ble_eq_true rfl) zf_11 zw_154 rfl dX11_night_332 ?_
        refine lv_iload hx hb dX11_night_335 (lv_at hl 1 rfl) ?_
        refine lv_aload_n hx hb dX11_night_337 rfl (lv_at hl 0 rfl) ?_
        refine zget (C := RX11) (T := TX11) (N := 31) S hK hP 0 rfl rfl 30 (Nat.le_of_ble_eq_true rfl) zf_11 zw_169 rfl dX11_night_338 ?_
        refine lv_sipush (v := 488) hx hb dX11_night_341 (by decide) ?_
        refine lv_iload hx hb dX11_night_344 (lv_at hl 1 rfl) ?_
        refine lv_iadd hx hb dX11_night_346 ?_
        obtain ⟨h15, hg⟩ := zck hg
        refine zlald hx hb hK hP 2 1 rfl rfl (j := ((488 + x4).toNatClampNeg)) h15 rfl dX11_night_347 ?_
        refine lv_l2i hx hb dX11_night_348 rfl ?_
        obtain ⟨h16, hg⟩ := zck hg
        refine ziast hx hb hK hP hD hS 3 0 rfl rfl (j := (x4.toNatClampNeg)) h16 rfl dX11_night_349 (w2 := (ws_X11_night cI cJ cZ cA q_M q_M_refused q_M_big q_M_above q_M_below u_M_now u_M_images u_M_kept u_M_text u_M_size u_M_at u_M_begin u_M_kind u_M_value u_M_read u_M_acts u_M_act u_M_waits u_M_wait u_M_held u_M_place u_M_heap u_M_clocks u_M_counts u_M_talking u_M_most u_M_hasA u_M_hasB u_M_talks v_M_sign v_M_manyAbove v_M_manyBelow a_M_refused a_M_big (upd a_M_above (x4.toNatClampNeg) ((a_M_big ((488 + x4).toNatClampNeg)).toInt32)) a_M_below)) rfl (fun H locs hP hD hS => ?_)
        refine lv_aload_n hx hb dX11_night_350 rfl (lv_at hl 0 rfl) ?_
        refine zget (C := RX11) (T := TX11) (N := 31) S hK hP 0 rfl rfl 9 (Nat.le_of_ble_eq_true rfl) zf_11 zw_155 rfl dX11_night_351 ?_
        refine lv_iload hx hb dX11_night_354 (lv_at hl 1 rfl) ?_
        refine lv_aload_n hx hb dX11_night_356 rfl (lv_at hl 0 rfl) ?_
        refine zget (C := RX11) (T := TX11) (N := 31) S hK hP 0 rfl rfl 30 (Nat.le_of_ble_eq_true rfl) zf_11 zw_169 rfl dX11_night_357 ?_
        refine lv_sipush (v := 496) hx hb dX11_night_360 (by decide) ?_
        refine lv_iload hx hb dX11_night_363 (lv_at hl 1 rfl) ?_
        refine lv_iadd hx hb dX11_night_365 ?_
        obtain ⟨h17, hg⟩ := zck hg
        refine zlald hx hb hK hP 2 1 rfl rfl (j := ((496 + x4).toNatClampNeg)) h17 rfl dX11_night_366 ?_
        refine lv_l2i hx hb dX11_night_367 rfl ?_
        obtain ⟨h18, hg⟩ := zck hg
        refine ziast hx hb hK hP hD hS 4 0 rfl rfl (j := (x4.toNatClampNeg)) h18 rfl dX11_night_368 (w2 := (ws_X11_night cI cJ cZ cA q_M q_M_refused q_M_big q_M_above q_M_below u_M_now u_M_images u_M_kept u_M_text u_M_size u_M_at u_M_begin u_M_kind u_M_value u_M_read u_M_acts u_M_act u_M_waits u_M_wait u_M_held u_M_place u_M_heap u_M_clocks u_M_counts u_M_talking u_M_most u_M_hasA u_M_hasB u_M_talks v_M_sign v_M_manyAbove v_M_manyBelow a_M_refused a_M_big (upd a_M_above (x4.toNatClampNeg) ((a_M_big ((488 + x4).toNatClampNeg)).toInt32)) (upd a_M_below (x4.toNatClampNeg) ((a_M_big ((496 + x4).toNatClampNeg)).toInt32)))) rfl (fun H locs hP hD hS => ?_)
        refine lv_iinc (k := 1) (v := x4 + 1) (lv' := [(4, .int (x4 + 1)), (0, .ref q_M)]) hx hb dX11_night_369 hl rfl (zinc (by decide)) (by decide) rfl (fun ls hl => ?_)
        refine lv_goto (tgt := 324) hx hb dX11_night_372 (by decide) ?_
        exact ih (x4 + 1) v_M_sign v_M_manyAbove v_M_manyBelow a_M_refused a_M_big (upd a_M_above (x4.toNatClampNeg) ((a_M_big ((488 + x4).toNatClampNeg)).toInt32)) (upd a_M_below (x4.toNatClampNeg) ((a_M_big ((496 + x4).toNatClampNeg)).toInt32)) _ _ _ (lv_sub hl [1, 0] rfl) hP hD hS hg
  have B318 : ∀ (t1 : Int32) (v_M_sign : Int32) (v_M_manyAbove : Int32) (v_M_manyBelow : Int32) (a_M_refused : Nat → Int32) (a_M_big : Nat → Int64) (a_M_above : Nat → Int32) (a_M_below : Nat → Int32) (H : Heap) (locs : List Loc) (ls : Array Slot) (hl : lv_has ls 6 [(0, .ref q_M)]) (hP : va_P D vwCl (ws_X11_night cI cJ cZ cA q_M q_M_refused q_M_big q_M_above q_M_below u_M_now u_M_images u_M_kept u_M_text u_M_size u_M_at u_M_begin u_M_kind u_M_value u_M_read u_M_acts u_M_act u_M_waits u_M_wait u_M_held u_M_place u_M_heap u_M_clocks u_M_counts u_M_talking u_M_most u_M_hasA u_M_hasB u_M_talks v_M_sign v_M_manyAbove v_M_manyBelow a_M_refused a_M_big a_M_above a_M_below) H) (hD : va_D A (ws_X11_night cI cJ cZ cA q_M q_M_refused q_M_big q_M_above q_M_below u_M_now u_M_images u_M_kept u_M_text u_M_size u_M_at u_M_begin u_M_kind u_M_value u_M_read u_M_acts u_M_act u_M_waits u_M_wait u_M_held u_M_place u_M_heap u_M_clocks u_M_counts u_M_talking u_M_most u_M_hasA u_M_hasB u_M_talks v_M_sign v_M_manyAbove v_M_manyBelow a_M_refused a_M_big a_M_above a_M_below)) (hS : va_S A s.heap H locs), g_X11_night_318 x1 x2 x3 t1 v_M_sign v_M_manyAbove v_M_manyBelow a_M_refused a_M_big a_M_above a_M_below = some o → W p l e rm_X11_night s m args below meth c H locs 0 0 Q (F0 m 318 ls [.int t1, .ref q_M]) := by
    intro  t1 v_M_sign v_M_manyAbove v_M_manyBelow a_M_refused a_M_big a_M_above a_M_below H locs ls hl hP hD hS hg
    refine zputf (C := RX11) (T := TX11) (N := 31) (ty := .int) S hK hP hD hS 0 rfl rfl 5 (Nat.le_of_ble_eq_true rfl) zf_11 tyX11 tyX11_ok nmX11 zw_921 rfl (by decide +kernel) rfl rfl (Nat.le_of_ble_eq_true rfl) dX11_night_318 (w2 := (ws_X11_night cI cJ cZ cA q_M q_M_refused q_M_big q_M_above q_M_below u_M_now u_M_images u_M_kept u_M_text u_M_size u_M_at u_M_begin u_M_kind u_M_value u_M_read u_M_acts u_M_act u_M_waits u_M_wait u_M_held u_M_place u_M_heap u_M_clocks u_M_counts u_M_talking u_M_most u_M_hasA u_M_hasB u_M_talks t1 v_M_manyAbove v_M_manyBelow a_M_refused a_M_big a_M_above a_M_below)) rfl (fun H locs hP hD hS => ?_)
    refine lv_iconst (v := 0) hx hb dX11_night_321 (by decide) ?_
    refine lv_istore (lv' := [(4, .int 0), (0, .ref q_M)]) hx hb dX11_night_322 hl (by decide) rfl (fun ls hl => ?_)
    exact B324 zF 0 t1 v_M_manyAbove v_M_manyBelow a_M_refused a_M_big a_M_above a_M_below _ _ _ (lv_sub hl [1, 0] rfl) hP hD hS hg
  have B274 : ∀ (k211 : Int64 → Int32 → Int32 → Int32 → (Nat → Int32) → (Nat → Int64) → (Nat → Int32) → (Nat → Int32) → Option (Int32 × Int32 × Int32 × Int32 × (Nat → Int32) × (Nat → Int64) × (Nat → Int32) × (Nat → Int32))) (hk211 : ∀ (x4 : Int64) (v_M_sign : Int32) (v_M_manyAbove : Int32) (v_M_manyBelow : Int32) (a_M_refused : Nat → Int32) (a_M_big : Nat → Int64) (a_M_above : Nat → Int32) (a_M_below : Nat → Int32) (H : Heap) (locs : List Loc) (ls : Array Slot) (hl : lv_has ls 6 [(0, .ref q_M), (4, .long x4)]) (hP : va_P D vwCl (ws_X11_night cI cJ cZ cA q_M q_M_refused q_M_big q_M_above q_M_below u_M_now u_M_images u_M_kept u_M_text u_M_size u_M_at u_M_begin u_M_kind u_M_value u_M_read u_M_acts u_M_act u_M_waits u_M_wait u_M_held u_M_place u_M_heap u_M_clocks u_M_counts u_M_talking u_M_most u_M_hasA u_M_hasB u_M_talks v_M_sign v_M_manyAbove v_M_manyBelow a_M_refused a_M_big a_M_above a_M_below) H) (hD : va_D A (ws_X11_night cI cJ cZ cA q_M q_M_refused q_M_big q_M_above q_M_below u_M_now u_M_images u_M_kept u_M_text u_M_size u_M_at u_M_begin u_M_kind u_M_value u_M_read u_M_acts u_M_act u_M_waits u_M_wait u_M_held u_M_place u_M_heap u_M_clocks u_M_counts u_M_talking u_M_most u_M_hasA u_M_hasB u_M_talks v_M_sign v_M_manyAbove v_M_manyBelow a_M_refused a_M_big a_M_above a_M_below)) (hS : va_S A s.heap H locs), k211 x4 v_M_sign v_M_manyAbove v_M_manyBelow a_M_refused a_M_big a_M_above a_M_below = some o → W p l e rm_X11_night s m args below meth c H locs 0 0 Q (F0 m 211 ls [])) (x4 : Int64) (v_M_sign : Int32) (v_M_manyAbove : Int32) (v_M_manyBelow : Int32) (a_M_refused : Nat → Int32) (a_M_big : Nat → Int64) (a_M_above : Nat → Int32) (a_M_below : Nat → Int32) (H : Heap) (locs : List Loc) (ls : Array Slot) (hl : lv_has ls 6 [(0, .ref q_M), (4, .long x4)]) (hP : va_P D vwCl (ws_X11_night cI cJ cZ cA q_M q_M_refused q_M_big q_M_above q_M_below u_M_now u_M_images u_M_kept u_M_text u_M_size u_M_at u_M_begin u_M_kind u_M_value u_M_read u_M_acts u_M_act u_M_waits u_M_wait u_M_held u_M_place u_M_heap u_M_clocks u_M_counts u_M_talking u_M_most u_M_hasA u_M_hasB u_M_talks v_M_sign v_M_manyAbove v_M_manyBelow a_M_refused a_M_big a_M_above a_M_below) H) (hD : va_D A (ws_X11_night cI cJ cZ cA q_M q_M_refused q_M_big q_M_above q_M_below u_M_now u_M_images u_M_kept u_M_text u_M_size u_M_at u_M_begin u_M_kind u_M_value u_M_read u_M_acts u_M_act u_M_waits u_M_wait u_M_held u_M_place u_M_heap u_M_clocks u_M_counts u_M_talking u_M_most u_M_hasA u_M_hasB u_M_talks v_M_sign v_M_manyAbove v_M_manyBelow a_M_refused a_M_big a_M_above a_M_below)) (hS : va_S A s.heap H locs), g_X11_night_274 x1 x2 x3 k211 x4 v_M_sign v_M_manyAbove v_M_manyBelow a_M_refused a_M_big a_M_above a_M_below = some o → W p l e rm_X11_night s m args below meth c H locs 0 0 Q (F0 m 274 ls []) := by
    intro k211 hk211 x4 v_M_sign v_M_manyAbove v_M_manyBelow a_M_refused a_M_big a_M_above a_M_below H locs ls hl hP hD hS hg
    refine lv_lload hx hb dX11_night_274 (lv_at hl 1 rfl) ?_
    refine lv_ldc2 (v := 3) hx hb S.2.2.2.1 (ht _ zw_880) dX11_night_276 ?_
    refine lv_ladd hx hb dX11_night_279 ?_
    refine lv_lstore (lv' := [(4, .long (x4 + (3 : Int64))), (0, .ref q_M)]) hx hb dX11_night_280 hl (by decide) rfl (fun ls hl => ?_)
    refine lv_goto (tgt := 211) hx hb dX11_night_282 (by decide) ?_
    exact hk211 (x4 + (3 : Int64)) v_M_sign v_M_manyAbove v_M_manyBelow a_M_refused a_M_big a_M_above a_M_below _ _ _ (lv_sub hl [1, 0] rfl) hP hD hS hg
  have B220 : ∀ (k211 : Int64 → Int32 → Int32 → Int32 → (Nat → Int32) → (Nat → Int64) → (Nat → Int32) → (Nat → Int32) → Option (Int32 × Int32 × Int32 × Int32 × (Nat → Int32) × (Nat → Int64) × (Nat → Int32) × (Nat → Int32))) (hk211 : ∀ (x4 : Int64) (v_M_sign : Int32) (v_M_manyAbove : Int32) (v_M_manyBelow : Int32) (a_M_refused : Nat → Int32) (a_M_big : Nat → Int64) (a_M_above : Nat → Int32) (a_M_below : Nat → Int32) (H : Heap) (locs : List Loc) (ls : Array Slot) (hl : lv_has ls 6 [(0, .ref q_M), (4, .long x4)]) (hP : va_P D vwCl (ws_X11_night cI cJ cZ cA q_M q_M_refused q_M_big q_M_above q_M_below u_M_now u_M_images u_M_kept u_M_text u_M_size u_M_at u_M_begin u_M_kind u_M_value u_M_read u_M_acts u_M_act u_M_waits u_M_wait u_M_held u_M_place u_M_heap u_M_clocks u_M_counts u_M_talking u_M_most u_M_hasA u_M_hasB u_M_talks v_M_sign v_M_manyAbove v_M_manyBelow a_M_refused a_M_big a_M_above a_M_below) H) (hD : va_D A (ws_X11_night cI cJ cZ cA q_M q_M_refused q_M_big q_M_above q_M_below u_M_now u_M_images u_M_kept u_M_text u_M_size u_M_at u_M_begin u_M_kind u_M_value u_M_read u_M_acts u_M_act u_M_waits u_M_wait u_M_held u_M_place u_M_heap u_M_clocks u_M_counts u_M_talking u_M_most u_M_hasA u_M_hasB u_M_talks v_M_sign v_M_manyAbove v_M_manyBelow a_M_refused a_M_big a_M_above a_M_below)) (hS : va_S A s.heap H locs), k211 x4 v_M_sign v_M_manyAbove v_M_manyBelow a_M_refused a_M_big a_M_above a_M_below = some o → W p l e rm_X11_night s m args below meth c H locs 0 0 Q (F0 m 211 ls []))  (n : Nat) (x4 : Int64) (v_M_sign : Int32) (v_M_manyAbove : Int32) (v_M_manyBelow : Int32) (a_M_refused : Nat → Int32) (a_M_big : Nat → Int64) (a_M_above : Nat → Int32) (a_M_below : Nat → Int32) (H : Heap) (locs : List Loc) (ls : Array Slot) (hl : lv_has ls 6 [(0, .ref q_M), (4, .long x4)]) (hP : va_P D vwCl (ws_X11_night cI cJ cZ cA q_M q_M_refused q_M_big q_M_above q_M_below u_M_now u_M_images u_M_kept u_M_text u_M_size u_M_at u_M_begin u_M_kind u_M_value u_M_read u_M_acts u_M_act u_M_waits u_M_wait u_M_held u_M_place u_M_heap u_M_clocks u_M_counts u_M_talking u_M_most u_M_hasA u_M_hasB u_M_talks v_M_sign v_M_manyAbove v_M_manyBelow a_M_refused a_M_big a_M_above a_M_below) H) (hD : va_D A (ws_X11_night cI cJ cZ cA q_M q_M_refused q_M_big q_M_above q_M_below u_M_now u_M_images u_M_kept u_M_text u_M_size u_M_at u_M_begin u_M_kind u_M_value u_M_read u_M_acts u_M_act u_M_waits u_M_wait u_M_held u_M_place u_M_heap u_M_clocks u_M_counts u_M_talking u_M_most u_M_hasA u_M_hasB u_M_talks v_M_sign v_M_manyAbove v_M_manyBelow a_M_refused a_M_big a_M_above a_M_below)) (hS : va_S A s.heap H locs), g_X11_night_220 x1 x2 x3 k211 n x4 v_M_sign v_M_manyAbove v_M_manyBelow a_M_refused a_M_big a_M_above a_M_below = some o → W p l e rm_X11_night s m args below meth c H locs 0 0 Q (F0 m 220 ls []) := by
    intro k211 hk211 n
    induction n with
    | zero => intro x4 v_M_sign v_M_manyAbove v_M_manyBelow a_M_refused a_M_big a_M_above a_M_below H locs ls hl hP hD hS hg; exact nomatch (show (none : Option (Int32 × Int32 × Int32 × Int32 × (Nat → Int32) × (Nat → Int64) × (Nat → Int32) × (Nat → Int32))) = some o from hg)
    | succ n ih =>
      intro x4 v_M_sign v_M_manyAbove v_M_manyBelow a_M_refused a_M_big a_M_above a_M_below H locs ls hl hP hD hS hg
      have hg : g_X11_night_220b x1 x2 x3 k211 (g_X11_night_220 x1 x2 x3 k211 n) x4 v_M_sign v_M_manyAbove v_M_manyBelow a_M_refused a_M_big a_M_above a_M_below = some o := hg
      refine lv_aload_n hx hb dX11_night_220 rfl (lv_at hl 0 rfl) ?_
      refine lv_bipush (v := 61) hx hb dX11_night_221 (by decide) ?_
      obtain ⟨v19, hc20, hg⟩ := zbd hg
      refine zcallV (rest := []) S (c_X11_limbs l D cI cJ cZ cA ga q_M q_M_big u_M_now u_M_images u_M_kept u_M_text u_M_size (.int v_M_sign) (.int v_M_manyAbove) (.int v_M_manyBelow) (.ref q_M_above) (.ref q_M_below) (.ref q_M_refused) u_M_at u_M_begin u_M_kind u_M_value u_M_read u_M_acts u_M_act u_M_waits u_M_wait u_M_held u_M_place u_M_heap u_M_clocks u_M_counts u_M_talking u_M_most u_M_hasA u_M_hasB u_M_talks a_M_big 61 v19 hc20) (zgV zw_927 zw_928 zw_929 zw_5 zw_930) rfl hd_X11_limbs ⟨rfl, rfl⟩ ⟨Nat.le_of_ble_eq_true rfl, Nat.le_of_ble_eq_true rfl⟩ 0 11 rfl rfl rfl hl.1 rfl (Nat.le_of_ble_eq_true rfl) dX11_night_223 hP hD hS hA hK hG (isC := [0, 2]) rfl (by decide +kernel) rfl ⟨Nat.zero_le _, Nat.zero_le _⟩ (pl := [some 0, none, some 1, none, none]) (nw := 5) rfl (by decide +kernel) (w2 := (ws_X11_night cI cJ cZ cA q_M q_M_refused q_M_big q_M_above q_M_below u_M_now u_M_images u_M_kept u_M_text u_M_size u_M_at u_M_begin u_M_kind u_M_value u_M_read u_M_acts u_M_act u_M_waits u_M_wait u_M_held u_M_place u_M_heap u_M_clocks u_M_counts u_M_talking u_M_most u_M_hasA u_M_hasB u_M_talks v_M_sign v_M_manyAbove v_M_manyBelow a_M_refused a_M_big a_M_above a_M_below)) rfl (st1 := [.int v19]) rfl (fun H locs hP hD hS => ?_)
      refine lv_if_le (tgt := 274) hx hb dX11_night_226 (by decide) (fun h226 => ?_) (fun h226 => ?_)
      · have hg := zp hg h226
        exact B274 k211 hk211 x4 v_M_sign v_M_manyAbove v_M_manyBelow a_M_refused a_M_big a_M_above a_M_below _ _ _ hl hP hD hS hg
      · have hg := zn hg h226
        refine lv_aload_n hx hb dX11_night_229 rfl (lv_at hl 0 rfl) ?_
        refine lv_bipush (v := 61) hx hb dX11_night_230 (by decide) ?_
        refine lv_lload hx hb dX11_night_232 (lv_at hl 1 rfl) ?_
        obtain ⟨v21, hc22, hg⟩ := zbd hg
        refine zcallV (rest := []) S (c_X11_restOf l D cI cJ cZ cA ga q_M q_M_big u_M_now u_M_images u_M_kept u_M_text u_M_size (.int v_M_sign) (.int v_M_manyAbove) (.int v_M_manyBelow) (.ref q_M_above) (.ref q_M_below) (.ref q_M_refused) u_M_at u_M_begin u_M_kind u_M_value u_M_read u_M_acts u_M_act u_M_waits u_M_wait u_M_held u_M_place u_M_heap u_M_clocks u_M_counts u_M_talking u_M_most u_M_hasA u_M_hasB u_M_talks a_M_big 61 x4 v21 hc22) (zgV zw_931 zw_932 zw_933 zw_5 zw_934) rfl hd_X11_restOf ⟨rfl, rfl⟩ ⟨Nat.le_of_ble_eq_true rfl, Nat.le_of_ble_eq_true rfl⟩ 0 11 rfl rfl rfl hl.1 rfl (Nat.le_of_ble_eq_true rfl) dX11_night_234 hP hD hS hA hK hG (isC := [0, 2]) rfl (by decide +kernel) rfl ⟨Nat.zero_le _, Nat.zero_le _⟩ (pl := [some 0, none, some 1, none, none]) (nw := 5) rfl (by decide +kernel) (w2 := (ws_X11_night cI cJ cZ cA q_M q_M_refused q_M_big q_M_above q_M_below u_M_now u_M_images u_M_kept u_M_text u_M_size u_M_at u_M_begin u_M_kind u_M_value u_M_read u_M_acts u_M_act u_M_waits u_M_wait u_M_held u_M_place u_M_heap u_M_clocks u_M_counts u_M_talking u_M_most u_M_hasA u_M_hasB u_M_talks v_M_sign v_M_manyAbove v_M_manyBelow a_M_refused a_M_big a_M_above a_M_below)) rfl (st1 := [.long v21]) rfl (fun H locs hP hD hS => ?_)
        refine lv_lconst (v := 0) hx hb dX11_night_237 (by decide) ?_
        refine W.lcmp hx hb dX11_night_238 ?_
        refine lv_if_ne (tgt := 274) hx hb dX11_night_239 (by decide) (fun h239 => ?_) (fun h239 => ?_)
        · have hg := zn hg h239
          exact B274 k211 hk211 x4 v_M_sign v_M_manyAbove v_M_manyBelow a_M_refused a_M_big a_M_above a_M_below _ _ _ hl hP hD hS hg
        · have hg := zp hg h239
          refine lv_aload_n hx hb dX11_night_242 rfl (lv_at hl 0 rfl) ?_
          refine lv_bipush (v := 62) hx hb dX11_night_243 (by decide) ?_
          refine lv_lload hx hb dX11_night_245 (lv_at hl 1 rfl) ?_
          obtain ⟨v23, hc24, hg⟩ := zbd hg
          refine zcallV (rest := []) S (c_X11_restOf l D cI cJ cZ cA ga q_M q_M_big u_M_now u_M_images u_M_kept u_M_text u_M_size (.int v_M_sign) (.int v_M_manyAbove) (.int v_M_manyBelow) (.ref q_M_above) (.ref q_M_below) (.ref q_M_refused) u_M_at u_M_begin u_M_kind u_M_value u_M_read u_M_acts u_M_act u_M_waits u_M_wait u_M_held u_M_place u_M_heap u_M_clocks u_M_counts u_M_talking u_M_most u_M_hasA u_M_hasB u_M_talks a_M_big 62 x4 v23 hc24) (zgV zw_931 zw_932 zw_933 zw_5 zw_934) rfl hd_X11_restOf ⟨rfl, rfl⟩ ⟨Nat.le_of_ble_eq_true rfl, Nat.le_of_ble_eq_true rfl⟩ 0 11 rfl rfl rfl hl.1 rfl (Nat.le_of_ble_eq_true rfl) dX11_night_247 hP hD hS hA hK hG (isC := [0, 2]) rfl (by decide +kernel) rfl ⟨Nat.zero_le _, Nat.zero_le _⟩ (pl := [some 0, none, some 1, none, none]) (nw := 5) rfl (by decide +kernel) (w2 := (ws_X11_night cI cJ cZ cA q_M q_M_refused q_M_big q_M_above q_M_below u_M_now u_M_images u_M_kept u_M_text u_M_size u_M_at u_M_begin u_M_kind u_M_value u_M_read u_M_acts u_M_act u_M_waits u_M_wait u_M_held u_M_place u_M_heap u_M_clocks u_M_counts u_M_talking u_M_most u_M_hasA u_M_hasB u_M_talks v_M_sign v_M_manyAbove v_M_manyBelow a_M_refused a_M_big a_M_above a_M_below)) rfl (st1 := [.long v23]) rfl (fun H locs hP hD hS => ?_)
          refine lv_lconst (v := 0) hx hb dX11_night_250 (by decide) ?_
          refine W.lcmp hx hb dX11_night_251 ?_
          refine lv_if_ne (tgt := 274) hx hb dX11_night_252 (by decide) (fun h252 => ?_) (fun h252 => ?_)
          · have hg := zn hg h252
            exact B274 k211 hk211 x4 v_M_sign v_M_manyAbove v_M_manyBelow a_M_refused a_M_big a_M_above a_M_below _ _ _ hl hP hD hS hg
          · have hg := zp hg h252
            refine lv_aload_n hx hb dX11_night_255 rfl (lv_at hl 0 rfl) ?_
            refine lv_bipush (v := 61) hx hb dX11_night_256 (by decide) ?_
            refine lv_lload hx hb dX11_night_258 (lv_at hl 1 rfl) ?_
            obtain ⟨v25, hc26, hg⟩ := zbd hg
            refine zcallV (rest := []) S (c_X11_shares l D cI cJ cZ cA ga q_M q_M_big u_M_now u_M_images u_M_kept u_M_text u_M_size (.int v_M_sign) (.int v_M_manyAbove) (.int v_M_manyBelow) (.ref q_M_above) (.ref q_M_below) (.ref q_M_refused) u_M_at u_M_begin u_M_kind u_M_value u_M_read u_M_acts u_M_act u_M_waits u_M_wait u_M_held u_M_place u_M_heap u_M_clocks u_M_counts u_M_talking u_M_most u_M_hasA u_M_hasB u_M_talks a_M_big 61 x4 v25 hc26) (zgV zw_935 zw_936 zw_937 zw_5 zw_938) rfl hd_X11_shares ⟨rfl, rfl⟩ ⟨Nat.le_of_ble_eq_true rfl, Nat.le_of_ble_eq_true rfl⟩ 0 11 rfl rfl rfl hl.1 rfl (Nat.le_of_ble_eq_true rfl) dX11_night_260 hP hD hS hA hK hG (isC := [0, 2]) rfl (by decide +kernel) rfl ⟨Nat.zero_le _, Nat.zero_le _⟩ (pl := [some 0, none, some 1, none, none]) (nw := 5) rfl (by decide +kernel) (w2 := (ws_X11_night cI cJ cZ cA q_M q_M_refused q_M_big q_M_above q_M_below u_M_now u_M_images u_M_kept u_M_text u_M_size u_M_at u_M_begin u_M_kind u_M_value u_M_read u_M_acts u_M_act u_M_waits u_M_wait u_M_held u_M_place u_M_heap u_M_clocks u_M_counts u_M_talking u_M_most u_M_hasA u_M_hasB u_M_talks v_M_sign v_M_manyAbove v_M_manyBelow a_M_refused v25 a_M_above a_M_below)) rfl (st1 := []) rfl (fun H locs hP hD hS => ?_)
            refine lv_aload_n hx hb dX11_night_263 rfl (lv_at hl 0 rfl) ?_
            refine lv_bipush (v := 62) hx hb dX11_night_264 (by decide) ?_
            refine lv_lload hx hb dX11_night_266 (lv_at hl 1 rfl) ?_
            obtain ⟨v27, hc28, hg⟩ := zbd hg
            refine zcallV (rest := []) S (c_X11_shares l D cI cJ cZ cA ga q_M q_M_big u_M_now u_M_images u_M_kept u_M_text u_M_size (.int v_M_sign) (.int v_M_manyAbove) (.int v_M_manyBelow) (.ref q_M_above) (.ref q_M_below) (.ref q_M_refused) u_M_at u_M_begin u_M_kind u_M_value u_M_read u_M_acts u_M_act u_M_waits u_M_wait u_M_held u_M_place u_M_heap u_M_clocks u_M_counts u_M_talking u_M_most u_M_hasA u_M_hasB u_M_talks v25 62 x4 v27 hc28) (zgV zw_935 zw_936 zw_937 zw_5 zw_938) rfl hd_X11_shares ⟨rfl, rfl⟩ ⟨Nat.le_of_ble_eq_true rfl, Nat.le_of_ble_eq_true rfl⟩ 0 11 rfl rfl rfl hl.1 rfl (Nat.le_of_ble_eq_true rfl) dX11_night_268 hP hD hS hA hK hG (isC := [0, 2]) rfl (by decide +kernel) rfl ⟨Nat.zero_le _, Nat.zero_le _⟩ (pl := [some 0, none, some 1, none, none]) (nw := 5) rfl (by decide +kernel) (w2 := (ws_X11_night cI cJ cZ cA q_M q_M_refused q_M_big q_M_above q_M_below u_M_now u_M_images u_M_kept u_M_text u_M_size u_M_at u_M_begin u_M_kind u_M_value u_M_read u_M_acts u_M_act u_M_waits u_M_wait u_M_held u_M_place u_M_heap u_M_clocks u_M_counts u_M_talking u_M_most u_M_hasA u_M_hasB u_M_talks v_M_sign v_M_manyAbove v_M_manyBelow a_M_refused v27 a_M_above a_M_below)) rfl (st1 := []) rfl (fun H locs hP hD hS => ?_)
            refine lv_goto (tgt := 220) hx hb dX11_night_271 (by decide) ?_
            exact ih x4 v_M_sign v_M_manyAbove v_M_manyBelow a_M_refused v27 a_M_above a_M_below _ _ _ hl hP hD hS hg
  have B211 : ∀  (n : Nat) (x4 : Int64) (v_M_sign : Int32) (v_M_manyAbove : Int32) (v_M_manyBelow : Int32) (a_M_refused : Nat → Int32) (a_M_big : Nat → Int64) (a_M_above : Nat → Int32) (a_M_below : Nat → Int32) (H : Heap) (locs : List Loc) (ls : Array Slot) (hl : lv_has ls 6 [(0, .ref q_M), (4, .long x4)]) (hP : va_P D vwCl (ws_X11_night cI cJ cZ cA q_M q_M_refused q_M_big q_M_above q_M_below u_M_now u_M_images u_M_kept u_M_text u_M_size u_M_at u_M_begin u_M_kind u_M_value u_M_read u_M_acts u_M_act u_M_waits u_M_wait u_M_held u_M_place u_M_heap u_M_clocks u_M_counts u_M_talking u_M_most u_M_hasA u_M_hasB u_M_talks v_M_sign v_M_manyAbove v_M_manyBelow a_M_refused a_M_big a_M_above a_M_below) H) (hD : va_D A (ws_X11_night cI cJ cZ cA q_M q_M_refused q_M_big q_M_above q_M_below u_M_now u_M_images u_M_kept u_M_text u_M_size u_M_at u_M_begin u_M_kind u_M_value u_M_read u_M_acts u_M_act u_M_waits u_M_wait u_M_held u_M_place u_M_heap u_M_clocks u_M_counts u_M_talking u_M_most u_M_hasA u_M_hasB u_M_talks v_M_sign v_M_manyAbove v_M_manyBelow a_M_refused a_M_big a_M_above a_M_below)) (hS : va_S A s.heap H locs), g_X11_night_211 x1 x2 x3 n x4 v_M_sign v_M_manyAbove v_M_manyBelow a_M_refused a_M_big a_M_above a_M_below = some o → W p l e rm_X11_night s m args below meth c H locs 0 0 Q (F0 m 211 ls []) := by
    intro  n
    induction n with
    | zero => intro x4 v_M_sign v_M_manyAbove v_M_manyBelow a_M_refused a_M_big a_M_above a_M_below H locs ls hl hP hD hS hg; exact nomatch (show (none : Option (Int32 × Int32 × Int32 × Int32 × (Nat → Int32) × (Nat → Int64) × (Nat → Int32) × (Nat → Int32))) = some o from hg)
    | succ n ih =>
      intro x4 v_M_sign v_M_manyAbove v_M_manyBelow a_M_refused a_M_big a_M_above a_M_below H locs ls hl hP hD hS hg
      have hg : g_X11_night_211b x1 x2 x3 (g_X11_night_211 x1 x2 x3 n) x4 v_M_sign v_M_manyAbove v_M_manyBelow a_M_refused a_M_big a_M_above a_M_below = some o := hg
      refine lv_lload hx hb dX11_night_211 (lv_at hl 1 rfl) ?_
      refine lv_ldc2 (v := 6) hx hb S.2.2.2.1 (ht _ zw_919) dX11_night_213 ?_
      refine W.lcmp hx hb dX11_night_216 ?_
      refine lv_if_ge (tgt := 285) hx hb dX11_night_217 (by decide) (fun h217 => ?_) (fun h217 => ?_)
      · have hg := zp hg h217
        refine lv_aload_n hx hb dX11_night_285 rfl (lv_at hl 0 rfl) ?_
        refine lv_aload_n hx hb dX11_night_286 rfl (lv_at hl 0 rfl) ?_
        refine lv_bipush (v := 61) hx hb dX11_night_287 (by decide) ?_
        obtain ⟨v11, hc12, hg⟩ := zbd hg
        refine zcallV (rest := [.ref q_M]) S (c_X11_limbs l D cI cJ cZ cA ga q_M q_M_big u_M_now u_M_images u_M_kept u_M_text u_M_size (.int v_M_sign) (.int v_M_manyAbove) (.int v_M_manyBelow) (.ref q_M_above) (.ref q_M_below) (.ref q_M_refused) u_M_at u_M_begin u_M_kind u_M_value u_M_read u_M_acts u_M_act u_M_waits u_M_wait u_M_held u_M_place u_M_heap u_M_clocks u_M_counts u_M_talking u_M_most u_M_hasA u_M_hasB u_M_talks a_M_big 61 v11 hc12) (zgV zw_927 zw_928 zw_929 zw_5 zw_930) rfl hd_X11_limbs ⟨rfl, rfl⟩ ⟨Nat.le_of_ble_eq_true rfl, Nat.le_of_ble_eq_true rfl⟩ 0 11 rfl rfl rfl hl.1 rfl (Nat.le_of_ble_eq_true rfl) dX11_night_289 hP hD hS hA hK hG (isC := [0, 2]) rfl (by decide +kernel) rfl ⟨Nat.zero_le _, Nat.zero_le _⟩ (pl := [some 0, none, some 1, none, none]) (nw := 5) rfl (by decide +kernel) (w2 := (ws_X11_night cI cJ cZ cA q_M q_M_refused q_M_big q_M_above q_M_below u_M_now u_M_images u_M_kept u_M_text u_M_size u_M_at u_M_begin u_M_kind u_M_value u_M_read u_M_acts u_M_act u_M_waits u_M_wait u_M_held u_M_place u_M_heap u_M_clocks u_M_counts u_M_talking u_M_most u_M_hasA u_M_hasB u_M_talks v_M_sign v_M_manyAbove v_M_manyBelow a_M_refused a_M_big a_M_above a_M_below)) rfl (st1 := [.int v11, .ref q_M]) rfl (fun H locs hP hD hS => ?_)
        refine zputf (C := RX11) (T := TX11) (N := 31) (ty := .int) S hK hP hD hS 0 rfl rfl 6 (Nat.le_of_ble_eq_true rfl) zf_11 tyX11 tyX11_ok nmX11 zw_920 rfl (by decide +kernel) rfl rfl (Nat.le_of_ble_eq_true rfl) dX11_night_292 (w2 := (ws_X11_night cI cJ cZ cA q_M q_M_refused q_M_big q_M_above q_M_below u_M_now u_M_images u_M_kept u_M_text u_M_size u_M_at u_M_begin u_M_kind u_M_value u_M_read u_M_acts u_M_act u_M_waits u_M_wait u_M_held u_M_place u_M_heap u_M_clocks u_M_counts u_M_talking u_M_most u_M_hasA u_M_hasB u_M_talks v_M_sign v11 v_M_manyBelow a_M_refused a_M_big a_M_above a_M_below)) rfl (fun H locs hP hD hS => ?_)
        refine lv_aload_n hx hb dX11_night_295 rfl (lv_at hl 0 rfl) ?_
        refine lv_aload_n hx hb dX11_night_296 rfl (lv_at hl 0 rfl) ?_
        refine lv_bipush (v := 62) hx hb dX11_night_297 (by decide) ?_
        obtain ⟨v13, hc14, hg⟩ := zbd hg
        refine zcallV (rest := [.ref q_M]) S (c_X11_limbs l D cI cJ cZ cA ga q_M q_M_big u_M_now u_M_images u_M_kept u_M_text u_M_size (.int v_M_sign) (.int v11) (.int v_M_manyBelow) (.ref q_M_above) (.ref q_M_below) (.ref q_M_refused) u_M_at u_M_begin u_M_kind u_M_value u_M_read u_M_acts u_M_act u_M_waits u_M_wait u_M_held u_M_place u_M_heap u_M_clocks u_M_counts u_M_talking u_M_most u_M_hasA u_M_hasB u_M_talks a_M_big 62 v13 hc14) (zgV zw_927 zw_928 zw_929 zw_5 zw_930) rfl hd_X11_limbs ⟨rfl, rfl⟩ ⟨Nat.le_of_ble_eq_true rfl, Nat.le_of_ble_eq_true rfl⟩ 0 11 rfl rfl rfl hl.1 rfl (Nat.le_of_ble_eq_true rfl) dX11_night_299 hP hD hS hA hK hG (isC := [0, 2]) rfl (by decide +kernel) rfl ⟨Nat.zero_le _, Nat.zero_le _⟩ (pl := [some 0, none, some 1, none, none]) (nw := 5) rfl (by decide +kernel) (w2 := (ws_X11_night cI cJ cZ cA q_M q_M_refused q_M_big q_M_above q_M_below u_M_now u_M_images u_M_kept u_M_text u_M_size u_M_at u_M_begin u_M_kind u_M_value u_M_read u_M_acts u_M_act u_M_waits u_M_wait u_M_held u_M_place u_M_heap u_M_clocks u_M_counts u_M_talking u_M_most u_M_hasA u_M_hasB u_M_talks v_M_sign v11 v_M_manyBelow a_M_refused a_M_big a_M_above a_M_below)) rfl (st1 := [.int v13, .ref q_M]) rfl (fun H locs hP hD hS => ?_)
        refine zputf (C := RX11) (T := TX11) (N := 31) (ty := .int) S hK hP hD hS 0 rfl rfl 7 (Nat.le_of_ble_eq_true rfl) zf_11 tyX11 tyX11_ok nmX11 zw_153 rfl (by decide +kernel) rfl rfl (Nat.le_of_ble_eq_true rfl) dX11_night_302 (w2 := (ws_X11_night cI cJ cZ cA q_M q_M_refused q_M_big q_M_above q_M_below u_M_now u_M_images u_M_kept u_M_text u_M_size u_M_at u_M_begin u_M_kind u_M_value u_M_read u_M_acts u_M_act u_M_waits u_M_wait u_M_held u_M_place u_M_heap u_M_clocks u_M_counts u_M_talking u_M_most u_M_hasA u_M_hasB u_M_talks v_M_sign v11 v13 a_M_refused a_M_big a_M_above a_M_below)) rfl (fun H locs hP hD hS => ?_)
        refine lv_aload_n hx hb dX11_night_305 rfl (lv_at hl 0 rfl) ?_
        refine lv_aload_n hx hb dX11_night_306 rfl (lv_at hl 0 rfl) ?_
        refine zget (C := RX11) (T := TX11) (N := 31) S hK hP 0 rfl rfl 6 (Nat.le_of_ble_eq_true rfl) zf_11 zw_920 rfl dX11_night_307 ?_
        refine lv_if_ne (tgt := 317) hx hb dX11_night_310 (by decide) (fun h310 => ?_) (fun h310 => ?_)
        · have hg := zn hg h310
          refine lv_iconst (v := 1) hx hb dX11_night_317 (by decide) ?_
          exact B318 1 v_M_sign v11 v13 a_M_refused a_M_big a_M_above a_M_below _ _ _ (lv_sub hl [0] rfl) hP hD hS hg
        · have hg := zp hg h310
          refine lv_iconst (v := 0) hx hb dX11_night_313 (by decide) ?_
          refine lv_goto (tgt := 318) hx hb dX11_night_314 (by decide) ?_
          exact B318 0 v_M_sign v11 v13 a_M_refused a_M_big a_M_above a_M_below _ _ _ (lv_sub hl [0] rfl) hP hD hS hg
      · have hg := zn hg h217
        exact B220 (g_X11_night_211 x1 x2 x3 n) ih zF x4 v_M_sign v_M_manyAbove v_M_manyBelow a_M_refused a_M_big a_M_above a_M_below _ _ _ hl hP hD hS hg
  have B206 : ∀ (v_M_sign : Int32) (v_M_manyAbove : Int32) (v_M_manyBelow : Int32) (a_M_refused : Nat → Int32) (a_M_big : Nat → Int64) (a_M_above : Nat → Int32) (a_M_below : Nat → Int32) (H : Heap) (locs : List Loc) (ls : Array Slot) (hl : lv_has ls 6 [(0, .ref q_M)]) (hP : va_P D vwCl (ws_X11_night cI cJ cZ cA q_M q_M_refused q_M_big q_M_above q_M_below u_M_now u_M_images u_M_kept u_M_text u_M_size u_M_at u_M_begin u_M_kind u_M_value u_M_read u_M_acts u_M_act u_M_waits u_M_wait u_M_held u_M_place u_M_heap u_M_clocks u_M_counts u_M_talking u_M_most u_M_hasA u_M_hasB u_M_talks v_M_sign v_M_manyAbove v_M_manyBelow a_M_refused a_M_big a_M_above a_M_below) H) (hD : va_D A (ws_X11_night cI cJ cZ cA q_M q_M_refused q_M_big q_M_above q_M_below u_M_now u_M_images u_M_kept u_M_text u_M_size u_M_at u_M_begin u_M_kind u_M_value u_M_read u_M_acts u_M_act u_M_waits u_M_wait u_M_held u_M_place u_M_heap u_M_clocks u_M_counts u_M_talking u_M_most u_M_hasA u_M_hasB u_M_talks v_M_sign v_M_manyAbove v_M_manyBelow a_M_refused a_M_big a_M_above a_M_below)) (hS : va_S A s.heap H locs), g_X11_night_206 x1 x2 x3 v_M_sign v_M_manyAbove v_M_manyBelow a_M_refused a_M_big a_M_above a_M_below = some o → W p l e rm_X11_night s m args below meth c H locs 0 0 Q (F0 m 206 ls []) := by
    intro  v_M_sign v_M_manyAbove v_M_manyBelow a_M_refused a_M_big a_M_above a_M_below H locs ls hl hP hD hS hg
    refine lv_ldc2 (v := 2) hx hb S.2.2.2.1 (ht _ zw_293) dX11_night_206 ?_
    refine lv_lstore (lv' := [(4, .long (2 : Int64)), (0, .ref q_M)]) hx hb dX11_night_209 hl (by decide) rfl (fun ls hl => ?_)
    exact B211 zF (2 : Int64) v_M_sign v_M_manyAbove v_M_manyBelow a_M_refused a_M_big a_M_above a_M_below _ _ _ (lv_sub hl [1, 0] rfl) hP hD hS hg
  have B156 : ∀  (n : Nat) (x4 : Int32) (v_M_sign : Int32) (v_M_manyAbove : Int32) (v_M_manyBelow : Int32) (a_M_refused : Nat → Int32) (a_M_big : Nat → Int64) (a_M_above : Nat → Int32) (a_M_below : Nat → Int32) (H : Heap) (locs : List Loc) (ls : Array Slot) (hl : lv_has ls 6 [(0, .ref q_M), (1, .int x1), (4, .int x4)]) (hP : va_P D vwCl (ws_X11_night cI cJ cZ cA q_M q_M_refused q_M_big q_M_above q_M_below u_M_now u_M_images u_M_kept u_M_text u_M_size u_M_at u_M_begin u_M_kind u_M_value u_M_read u_M_acts u_M_act u_M_waits u_M_wait u_M_held u_M_place u_M_heap u_M_clocks u_M_counts u_M_talking u_M_most u_M_hasA u_M_hasB u_M_talks v_M_sign v_M_manyAbove v_M_manyBelow a_M_refused a_M_big a_M_above a_M_below) H) (hD : va_D A (ws_X11_night cI cJ cZ cA q_M q_M_refused q_M_big q_M_above q_M_below u_M_now u_M_images u_M_kept u_M_text u_M_size u_M_at u_M_begin u_M_kind u_M_value u_M_read u_M_acts u_M_act u_M_waits u_M_wait u_M_held u_M_place u_M_heap u_M_clocks u_M_counts u_M_talking u_M_most u_M_hasA u_M_hasB u_M_talks v_M_sign v_M_manyAbove v_M_manyBelow a_M_refused a_M_big a_M_above a_M_below)) (hS : va_S A s.heap H locs), g_X11_night_156 x1 x2 x3 n x4 v_M_sign v_M_manyAbove v_M_manyBelow a_M_refused a_M_big a_M_above a_M_below = some o → W p l e rm_X11_night s m args below meth c H locs 0 0 Q (F0 m 156 ls []) := by
    intro  n
    induction n with
    | zero => intro x4 v_M_sign v_M_manyAbove v_M_manyBelow a_M_refused a_M_big a_M_above a_M_below H locs ls hl hP hD hS hg; exact nomatch (show (none : Option (Int32 × Int32 × Int32 × Int32 × (Nat → Int32) × (Nat → Int64) × (Nat → Int32) × (Nat → Int32))) = some o from hg)
    | succ n ih =>
      intro x4 v_M_sign v_M_manyAbove v_M_manyBelow a_M_refused a_M_big a_M_above a_M_below H locs ls hl hP hD hS hg
      have hg : g_X11_night_156b x1 x2 x3 (g_X11_night_156 x1 x2 x3 n) x4 v_M_sign v_M_manyAbove v_M_manyBelow a_M_refused a_M_big a_M_above a_M_below = some o := hg
      refine lv_iload hx hb dX11_night_156 (lv_at hl 2 rfl) ?_
      refine lv_iload_n hx hb dX11_night_158 rfl (lv_at hl 1 rfl) ?_
      refine lv_icmp_gt (tgt := 178) hx hb dX11_night_159 (by decide) (fun h159 => ?_) (fun h159 => ?_)
      · have hg := zp hg h159
        refine lv_aload_n hx hb dX11_night_178 rfl (lv_at hl 0 rfl) ?_
        refine lv_bipush (v := 61) hx hb dX11_night_179 (by decide) ?_
        obtain ⟨v9, hc10, hg⟩ := zbd hg
        refine zcallV (rest := []) S (c_X11_limbs l D cI cJ cZ cA ga q_M q_M_big u_M_now u_M_images u_M_kept u_M_text u_M_size (.int v_M_sign) (.int v_M_manyAbove) (.int v_M_manyBelow) (.ref q_M_above) (.ref q_M_below) (.ref q_M_refused) u_M_at u_M_begin u_M_kind u_M_value u_M_read u_M_acts u_M_act u_M_waits u_M_wait u_M_held u_M_place u_M_heap u_M_clocks u_M_counts u_M_talking u_M_most u_M_hasA u_M_hasB u_M_talks a_M_big 61 v9 hc10) (zgV zw_927 zw_928 zw_929 zw_5 zw_930) rfl hd_X11_limbs ⟨rfl, rfl⟩ ⟨Nat.le_of_ble_eq_true rfl, Nat.le_of_ble_eq_true rfl⟩ 0 11 rfl rfl rfl hl.1 rfl (Nat.le_of_ble_eq_true rfl) dX11_night_181 hP hD hS hA hK hG (isC := [0, 2]) rfl (by decide +kernel) rfl ⟨Nat.zero_le _, Nat.zero_le _⟩ (pl := [some 0, none, some 1, none, none]) (nw := 5) rfl (by decide +kernel) (w2 := (ws_X11_night cI cJ cZ cA q_M q_M_refused q_M_big q_M_above q_M_below u_M_now u_M_images u_M_kept u_M_text u_M_size u_M_at u_M_begin u_M_kind u_M_value u_M_read u_M_acts u_M_act u_M_waits u_M_wait u_M_held u_M_place u_M_heap u_M_clocks u_M_counts u_M_talking u_M_most u_M_hasA u_M_hasB u_M_talks v_M_sign v_M_manyAbove v_M_manyBelow a_M_refused a_M_big a_M_above a_M_below)) rfl (st1 := [.int v9]) rfl (fun H locs hP hD hS => ?_)
        refine lv_if_ne (tgt := 206) hx hb dX11_night_184 (by decide) (fun h184 => ?_) (fun h184 => ?_)
        · have hg := zn hg h184
          exact B206 v_M_sign v_M_manyAbove v_M_manyBelow a_M_refused a_M_big a_M_above a_M_below _ _ _ (lv_sub hl [0] rfl) hP hD hS hg
        · have hg := zp hg h184
          refine lv_aload_n hx hb dX11_night_187 rfl (lv_at hl 0 rfl) ?_
          refine lv_bipush (v := 62) hx hb dX11_night_188 (by decide) ?_
          refine lv_lconst (v := 0) hx hb dX11_night_190 (by decide) ?_
          refine lv_bipush (v := 63) hx hb dX11_night_191 (by decide) ?_
          refine lv_lconst (v := 0) hx hb dX11_night_193 (by decide) ?_
          obtain ⟨v29, hc30, hg⟩ := zbd hg
          refine zcallV (rest := []) S (c_X11_mixes l D cI cJ cZ cA ga q_M q_M_big u_M_now u_M_images u_M_kept u_M_text u_M_size (.int v_M_sign) (.int v_M_manyAbove) (.int v_M_manyBelow) (.ref q_M_above) (.ref q_M_below) (.ref q_M_refused) u_M_at u_M_begin u_M_kind u_M_value u_M_read u_M_acts u_M_act u_M_waits u_M_wait u_M_held u_M_place u_M_heap u_M_clocks u_M_counts u_M_talking u_M_most u_M_hasA u_M_hasB u_M_talks a_M_big 62 (0 : Int64) 63 (0 : Int64) v29 hc30) (zgV zw_922 zw_923 zw_924 zw_5 zw_925) rfl hd_X11_mixes ⟨rfl, rfl⟩ ⟨Nat.le_of_ble_eq_true rfl, Nat.le_of_ble_eq_true rfl⟩ 0 11 rfl rfl rfl hl.1 rfl (Nat.le_of_ble_eq_true rfl) dX11_night_194 hP hD hS hA hK hG (isC := [0, 2]) rfl (by decide +kernel) rfl ⟨Nat.zero_le _, Nat.zero_le _⟩ (pl := [some 0, none, some 1, none, none]) (nw := 5) rfl (by decide +kernel) (w2 := (ws_X11_night cI cJ cZ cA q_M q_M_refused q_M_big q_M_above q_M_below u_M_now u_M_images u_M_kept u_M_text u_M_size u_M_at u_M_begin u_M_kind u_M_value u_M_read u_M_acts u_M_act u_M_waits u_M_wait u_M_held u_M_place u_M_heap u_M_clocks u_M_counts u_M_talking u_M_most u_M_hasA u_M_hasB u_M_talks v_M_sign v_M_manyAbove v_M_manyBelow a_M_refused v29 a_M_above a_M_below)) rfl (st1 := []) rfl (fun H locs hP hD hS => ?_)
          refine lv_aload_n hx hb dX11_night_197 rfl (lv_at hl 0 rfl) ?_
          refine zget (C := RX11) (T := TX11) (N := 31) S hK hP 0 rfl rfl 30 (Nat.le_of_ble_eq_true rfl) zf_11 zw_169 rfl dX11_night_198 ?_
          refine lv_sipush (v := 496) hx hb dX11_night_201 (by decide) ?_
          refine lv_lconst (v := 1) hx hb dX11_night_204 (by decide) ?_
          refine zlast hx hb hK hP hD hS 2 1 rfl rfl (j := 496) (zin (by decide)) (by decide) dX11_night_205 (w2 := (ws_X11_night cI cJ cZ cA q_M q_M_refused q_M_big q_M_above q_M_below u_M_now u_M_images u_M_kept u_M_text u_M_size u_M_at u_M_begin u_M_kind u_M_value u_M_read u_M_acts u_M_act u_M_waits u_M_wait u_M_held u_M_place u_M_heap u_M_clocks u_M_counts u_M_talking u_M_most u_M_hasA u_M_hasB u_M_talks v_M_sign v_M_manyAbove v_M_manyBelow a_M_refused (vp_updL v29 496 (1 : Int64)) a_M_above a_M_below)) rfl (fun H locs hP hD hS => ?_)
          exact B206 v_M_sign v_M_manyAbove v_M_manyBelow a_M_refused (vp_updL v29 496 (1 : Int64)) a_M_above a_M_below _ _ _ (lv_sub hl [0] rfl) hP hD hS hg
      · have hg := zn hg h159
        refine lv_aload_n hx hb dX11_night_162 rfl (lv_at hl 0 rfl) ?_
        refine lv_bipush (v := 61) hx hb dX11_night_163 (by decide) ?_
        refine lv_lconst (v := 1) hx hb dX11_night_165 (by decide) ?_
        refine lv_iload hx hb dX11_night_166 (lv_at hl 2 rfl) ?_
        refine lv_lconst (v := 1) hx hb dX11_night_168 (by decide) ?_
        obtain ⟨v31, hc32, hg⟩ := zbd hg
        refine zcallV (rest := []) S (c_X11_mixes l D cI cJ cZ cA ga q_M q_M_big u_M_now u_M_images u_M_kept u_M_text u_M_size (.int v_M_sign) (.int v_M_manyAbove) (.int v_M_manyBelow) (.ref q_M_above) (.ref q_M_below) (.ref q_M_refused) u_M_at u_M_begin u_M_kind u_M_value u_M_read u_M_acts u_M_act u_M_waits u_M_wait u_M_held u_M_place u_M_heap u_M_clocks u_M_counts u_M_talking u_M_most u_M_hasA u_M_hasB u_M_talks a_M_big 61 (1 : Int64) x4 (1 : Int64) v31 hc32) (zgV zw_922 zw_923 zw_924 zw_5 zw_925) rfl hd_X11_mixes ⟨rfl, rfl⟩ ⟨Nat.le_of_ble_eq_true rfl, Nat.le_of_ble_eq_true rfl⟩ 0 11 rfl rfl rfl hl.1 rfl (Nat.le_of_ble_eq_true rfl) dX11_night_169 hP hD hS hA hK hG (isC := [0, 2]) rfl (by decide +kernel) rfl ⟨Nat.zero_le _, Nat.zero_le _⟩ (pl := [some 0, none, some 1, none, none]) (nw := 5) rfl (by decide +kernel) (w2 := (ws_X11_night cI cJ cZ cA q_M q_M_refused q_M_big q_M_above q_M_below u_M_now u_M_images u_M_kept u_M_text u_M_size u_M_at u_M_begin u_M_kind u_M_value u_M_read u_M_acts u_M_act u_M_waits u_M_wait u_M_held u_M_place u_M_heap u_M_clocks u_M_counts u_M_talking u_M_most u_M_hasA u_M_hasB u_M_talks v_M_sign v_M_manyAbove v_M_manyBelow a_M_refused v31 a_M_above a_M_below)) rfl (st1 := []) rfl (fun H locs hP hD hS => ?_)
        refine lv_iinc (k := 2) (v := x4 + 1) (lv' := [(4, .int (x4 + 1)), (0, .ref q_M), (1, .int x1)]) hx hb dX11_night_172 hl rfl (zinc (by decide)) (by decide) rfl (fun ls hl => ?_)
        refine lv_goto (tgt := 156) hx hb dX11_night_175 (by decide) ?_
        exact ih (x4 + 1) v_M_sign v_M_manyAbove v_M_manyBelow a_M_refused v31 a_M_above a_M_below _ _ _ (lv_sub hl [1, 2, 0] rfl) hP hD hS hg
  have B124 : ∀ (k87 : Int32 → Int32 → Int32 → Int32 → (Nat → Int32) → (Nat → Int64) → (Nat → Int32) → (Nat → Int32) → Option (Int32 × Int32 × Int32 × Int32 × (Nat → Int32) × (Nat → Int64) × (Nat → Int32) × (Nat → Int32))) (hk87 : ∀ (x4 : Int32) (v_M_sign : Int32) (v_M_manyAbove : Int32) (v_M_manyBelow : Int32) (a_M_refused : Nat → Int32) (a_M_big : Nat → Int64) (a_M_above : Nat → Int32) (a_M_below : Nat → Int32) (H : Heap) (locs : List Loc) (ls : Array Slot) (hl : lv_has ls 6 [(0, .ref q_M), (1, .int x1), (2, .int x2), (3, .int x3), (4, .int x4)]) (hP : va_P D vwCl (ws_X11_night cI cJ cZ cA q_M q_M_refused q_M_big q_M_above q_M_below u_M_now u_M_images u_M_kept u_M_text u_M_size u_M_at u_M_begin u_M_kind u_M_value u_M_read u_M_acts u_M_act u_M_waits u_M_wait u_M_held u_M_place u_M_heap u_M_clocks u_M_counts u_M_talking u_M_most u_M_hasA u_M_hasB u_M_talks v_M_sign v_M_manyAbove v_M_manyBelow a_M_refused a_M_big a_M_above a_M_below) H) (hD : va_D A (ws_X11_night cI cJ cZ cA q_M q_M_refused q_M_big q_M_above q_M_below u_M_now u_M_images u_M_kept u_M_text u_M_size u_M_at u_M_begin u_M_kind u_M_value u_M_read u_M_acts u_M_act u_M_waits u_M_wait u_M_held u_M_place u_M_heap u_M_clocks u_M_counts u_M_talking u_M_most u_M_hasA u_M_hasB u_M_talks v_M_sign v_M_manyAbove v_M_manyBelow a_M_refused a_M_big a_M_above a_M_below)) (hS : va_S A s.heap H locs), k87 x4 v_M_sign v_M_manyAbove v_M_manyBelow a_M_refused a_M_big a_M_above a_M_below = some o → W p l e rm_X11_night s m args below meth c H locs 0 0 Q (F0 m 87 ls [])) (k97 : Int32 → Int32 → Int32 → Int32 → Int32 → (Nat → Int32) → (Nat → Int64) → (Nat → Int32) → (Nat → Int32) → Option (Int32 × Int32 × Int32 × Int32 × (Nat → Int32) × (Nat → Int64) × (Nat → Int32) × (Nat → Int32))) (hk97 : ∀ (x4 : Int32) (x5 : Int32) (v_M_sign : Int32) (v_M_manyAbove : Int32) (v_M_manyBelow : Int32) (a_M_refused : Nat → Int32) (a_M_big : Nat → Int64) (a_M_above : Nat → Int32) (a_M_below : Nat → Int32) (H : Heap) (locs : List Loc) (ls : Array Slot) (hl : lv_has ls 6 [(0, .ref q_M), (1, .int x1), (2, .int x2), (3, .int x3), (4, .int x4), (5, .int x5)]) (hP : va_P D vwCl (ws_X11_night cI cJ cZ cA q_M q_M_refused q_M_big q_M_above q_M_below u_M_now u_M_images u_M_kept u_M_text u_M_size u_M_at u_M_begin u_M_kind u_M_value u_M_read u_M_acts u_M_act u_M_waits u_M_wait u_M_held u_M_place u_M_heap u_M_clocks u_M_counts u_M_talking u_M_most u_M_hasA u_M_hasB u_M_talks v_M_sign v_M_manyAbove v_M_manyBelow a_M_refused a_M_big a_M_above a_M_below) H) (hD : va_D A (ws_X11_night cI cJ cZ cA q_M q_M_refused q_M_big q_M_above q_M_below u_M_now u_M_images u_M_kept u_M_text u_M_size u_M_at u_M_begin u_M_kind u_M_value u_M_read u_M_acts u_M_act u_M_waits u_M_wait u_M_held u_M_place u_M_heap u_M_clocks u_M_counts u_M_talking u_M_most u_M_hasA u_M_hasB u_M_talks v_M_sign v_M_manyAbove v_M_manyBelow a_M_refused a_M_big a_M_above a_M_below)) (hS : va_S A s.heap H locs), k97 x4 x5 v_M_sign v_M_manyAbove v_M_manyBelow a_M_refused a_M_big a_M_above a_M_below = some o → W p l e rm_X11_night s m args below meth c H locs 0 0 Q (F0 m 97 ls [])) (x4 : Int32) (x5 : Int32) (t1 : Int32) (t2 : Int64) (t3 : Int32) (v_M_sign : Int32) (v_M_manyAbove : Int32) (v_M_manyBelow : Int32) (a_M_refused : Nat → Int32) (a_M_big : Nat → Int64) (a_M_above : Nat → Int32) (a_M_below : Nat → Int32) (H : Heap) (locs : List Loc) (ls : Array Slot) (hl : lv_has ls 6 [(0, .ref q_M), (1, .int x1), (2, .int x2), (3, .int x3), (4, .int x4), (5, .int x5)]) (hP : va_P D vwCl (ws_X11_night cI cJ cZ cA q_M q_M_refused q_M_big q_M_above q_M_below u_M_now u_M_images u_M_kept u_M_text u_M_size u_M_at u_M_begin u_M_kind u_M_value u_M_read u_M_acts u_M_act u_M_waits u_M_wait u_M_held u_M_place u_M_heap u_M_clocks u_M_counts u_M_talking u_M_most u_M_hasA u_M_hasB u_M_talks v_M_sign v_M_manyAbove v_M_manyBelow a_M_refused a_M_big a_M_above a_M_below) H) (hD : va_D A (ws_X11_night cI cJ cZ cA q_M q_M_refused q_M_big q_M_above q_M_below u_M_now u_M_images u_M_kept u_M_text u_M_size u_M_at u_M_begin u_M_kind u_M_value u_M_read u_M_acts u_M_act u_M_waits u_M_wait u_M_held u_M_place u_M_heap u_M_clocks u_M_counts u_M_talking u_M_most u_M_hasA u_M_hasB u_M_talks v_M_sign v_M_manyAbove v_M_manyBelow a_M_refused a_M_big a_M_above a_M_below)) (hS : va_S A s.heap H locs), g_X11_night_124 x1 x2 x3 k87 k97 x4 x5 t1 t2 t3 v_M_sign v_M_manyAbove v_M_manyBelow a_M_refused a_M_big a_M_above a_M_below = some o → W p l e rm_X11_night s m args below meth c H locs 0 0 Q (F0 m 124 ls [.int t3, .long t2, .int t1, .ref q_M]) := by
    intro k87 hk87 k97 hk97 x4 x5 t1 t2 t3 v_M_sign v_M_manyAbove v_M_manyBelow a_M_refused a_M_big a_M_above a_M_below H locs ls hl hP hD hS hg
    refine lv_iload_n hx hb dX11_night_124 rfl (lv_at hl 2 rfl) ?_
    refine lv_i2l hx hb dX11_night_125 rfl ?_
    obtain ⟨v35, hc36, hg⟩ := zbd hg
    refine zcallV (rest := []) S (c_X11_mixes l D cI cJ cZ cA ga q_M q_M_big u_M_now u_M_images u_M_kept u_M_text u_M_size (.int v_M_sign) (.int v_M_manyAbove) (.int v_M_manyBelow) (.ref q_M_above) (.ref q_M_below) (.ref q_M_refused) u_M_at u_M_begin u_M_kind u_M_value u_M_read u_M_acts u_M_act u_M_waits u_M_wait u_M_held u_M_place u_M_heap u_M_clocks u_M_counts u_M_talking u_M_most u_M_hasA u_M_hasB u_M_talks a_M_big t1 t2 t3 x2.toInt64 v35 hc36) (zgV zw_922 zw_923 zw_924 zw_5 zw_925) rfl hd_X11_mixes ⟨rfl, rfl⟩ ⟨Nat.le_of_ble_eq_true rfl, Nat.le_of_ble_eq_true rfl⟩ 0 11 rfl rfl rfl hl.1 rfl (Nat.le_of_ble_eq_true rfl) dX11_night_126 hP hD hS hA hK hG (isC := [0, 2]) rfl (by decide +kernel) rfl ⟨Nat.zero_le _, Nat.zero_le _⟩ (pl := [some 0, none, some 1, none, none]) (nw := 5) rfl (by decide +kernel) (w2 := (ws_X11_night cI cJ cZ cA q_M q_M_refused q_M_big q_M_above q_M_below u_M_now u_M_images u_M_kept u_M_text u_M_size u_M_at u_M_begin u_M_kind u_M_value u_M_read u_M_acts u_M_act u_M_waits u_M_wait u_M_held u_M_place u_M_heap u_M_clocks u_M_counts u_M_talking u_M_most u_M_hasA u_M_hasB u_M_talks v_M_sign v_M_manyAbove v_M_manyBelow a_M_refused v35 a_M_above a_M_below)) rfl (st1 := []) rfl (fun H locs hP hD hS => ?_)
    refine lv_iinc (k := 5) (v := x5 + (-1)) (lv' := [(5, .int (x5 + (-1))), (0, .ref q_M), (1, .int x1), (2, .int x2), (3, .int x3), (4, .int x4)]) hx hb dX11_night_129 hl rfl (zinc (by decide)) (by decide) rfl (fun ls hl => ?_)
    refine lv_goto (tgt := 97) hx hb dX11_night_132 (by decide) ?_
    exact hk97 x4 (x5 + (-1)) v_M_sign v_M_manyAbove v_M_manyBelow a_M_refused v35 a_M_above a_M_below _ _ _ (lv_sub hl [1, 2, 3, 4, 5, 0] rfl) hP hD hS hg
  have B97 : ∀ (k87 : Int32 → Int32 → Int32 → Int32 → (Nat → Int32) → (Nat → Int64) → (Nat → Int32) → (Nat → Int32) → Option (Int32 × Int32 × Int32 × Int32 × (Nat → Int32) × (Nat → Int64) × (Nat → Int32) × (Nat → Int32))) (hk87 : ∀ (x4 : Int32) (v_M_sign : Int32) (v_M_manyAbove : Int32) (v_M_manyBelow : Int32) (a_M_refused : Nat → Int32) (a_M_big : Nat → Int64) (a_M_above : Nat → Int32) (a_M_below : Nat → Int32) (H : Heap) (locs : List Loc) (ls : Array Slot) (hl : lv_has ls 6 [(0, .ref q_M), (1, .int x1), (2, .int x2), (3, .int x3), (4, .int x4)]) (hP : va_P D vwCl (ws_X11_night cI cJ cZ cA q_M q_M_refused q_M_big q_M_above q_M_below u_M_now u_M_images u_M_kept u_M_text u_M_size u_M_at u_M_begin u_M_kind u_M_value u_M_read u_M_acts u_M_act u_M_waits u_M_wait u_M_held u_M_place u_M_heap u_M_clocks u_M_counts u_M_talking u_M_most u_M_hasA u_M_hasB u_M_talks v_M_sign v_M_manyAbove v_M_manyBelow a_M_refused a_M_big a_M_above a_M_below) H) (hD : va_D A (ws_X11_night cI cJ cZ cA q_M q_M_refused q_M_big q_M_above q_M_below u_M_now u_M_images u_M_kept u_M_text u_M_size u_M_at u_M_begin u_M_kind u_M_value u_M_read u_M_acts u_M_act u_M_waits u_M_wait u_M_held u_M_place u_M_heap u_M_clocks u_M_counts u_M_talking u_M_most u_M_hasA u_M_hasB u_M_talks v_M_sign v_M_manyAbove v_M_manyBelow a_M_refused a_M_big a_M_above a_M_below)) (hS : va_S A s.heap H locs), k87 x4 v_M_sign v_M_manyAbove v_M_manyBelow a_M_refused a_M_big a_M_above a_M_below = some o → W p l e rm_X11_night s m args below meth c H locs 0 0 Q (F0 m 87 ls []))  (n : Nat) (x4 : Int32) (x5 : Int32) (v_M_sign : Int32) (v_M_manyAbove : Int32) (v_M_manyBelow : Int32) (a_M_refused : Nat → Int32) (a_M_big : Nat → Int64) (a_M_above : Nat → Int32) (a_M_below : Nat → Int32) (H : Heap) (locs : List Loc) (ls : Array Slot) (hl : lv_has ls 6 [(0, .ref q_M), (1, .int x1), (2, .int x2), (3, .int x3), (4, .int x4), (5, .int x5)]) (hP : va_P D vwCl (ws_X11_night cI cJ cZ cA q_M q_M_refused q_M_big q_M_above q_M_below u_M_now u_M_images u_M_kept u_M_text u_M_size u_M_at u_M_begin u_M_kind u_M_value u_M_read u_M_acts u_M_act u_M_waits u_M_wait u_M_held u_M_place u_M_heap u_M_clocks u_M_counts u_M_talking u_M_most u_M_hasA u_M_hasB u_M_talks v_M_sign v_M_manyAbove v_M_manyBelow a_M_refused a_M_big a_M_above a_M_below) H) (hD : va_D A (ws_X11_night cI cJ cZ cA q_M q_M_refused q_M_big q_M_above q_M_below u_M_now u_M_images u_M_kept u_M_text u_M_size u_M_at u_M_begin u_M_kind u_M_value u_M_read u_M_acts u_M_act u_M_waits u_M_wait u_M_held u_M_place u_M_heap u_M_clocks u_M_counts u_M_talking u_M_most u_M_hasA u_M_hasB u_M_talks v_M_sign v_M_manyAbove v_M_manyBelow a_M_refused a_M_big a_M_above a_M_below)) (hS : va_S A s.heap H locs), g_X11_night_97 x1 x2 x3 k87 n x4 x5 v_M_sign v_M_manyAbove v_M_manyBelow a_M_refused a_M_big a_M_above a_M_below = some o → W p l e rm_X11_night s m args below meth c H locs 0 0 Q (F0 m 97 ls []) := by
    intro k87 hk87 n
    induction n with
    | zero => intro x4 x5 v_M_sign v_M_manyAbove v_M_manyBelow a_M_refused a_M_big a_M_above a_M_below H locs ls hl hP hD hS hg; exact nomatch (show (none : Option (Int32 × Int32 × Int32 × Int32 × (Nat → Int32) × (Nat → Int64) × (Nat → Int32) × (Nat → Int32))) = some o from hg)
    | succ n ih =>
      intro x4 x5 v_M_sign v_M_manyAbove v_M_manyBelow a_M_refused a_M_big a_M_above a_M_below H locs ls hl hP hD hS hg
      have hg : g_X11_night_97b x1 x2 x3 k87 (g_X11_night_97 x1 x2 x3 k87 n) x4 x5 v_M_sign v_M_manyAbove v_M_manyBelow a_M_refused a_M_big a_M_above a_M_below = some o := hg
      refine lv_iload hx hb dX11_night_97 (lv_at hl 5 rfl) ?_
      refine lv_if_lt (tgt := 135) hx hb dX11_night_99 (by decide) (fun h99 => ?_) (fun h99 => ?_)
      · have hg := zp hg h99
        refine lv_aload_n hx hb dX11_night_135 rfl (lv_at hl 0 rfl) ?_
        refine lv_bipush (v := 62) hx hb dX11_night_136 (by decide) ?_
        refine lv_ldc2 (v := 10) hx hb S.2.2.2.1 (ht _ zw_471) dX11_night_138 ?_
        refine lv_bipush (v := 63) hx hb dX11_night_141 (by decide) ?_
        refine lv_lconst (v := 0) hx hb dX11_night_143 (by decide) ?_
        obtain ⟨v33, hc34, hg⟩ := zbd hg
        refine zcallV (rest := []) S (c_X11_mixes l D cI cJ cZ cA ga q_M q_M_big u_M_now u_M_images u_M_kept u_M_text u_M_size (.int v_M_sign) (.int v_M_manyAbove) (.int v_M_manyBelow) (.ref q_M_above) (.ref q_M_below) (.ref q_M_refused) u_M_at u_M_begin u_M_kind u_M_value u_M_read u_M_acts u_M_act u_M_waits u_M_wait u_M_held u_M_place u_M_heap u_M_clocks u_M_counts u_M_talking u_M_most u_M_hasA u_M_hasB u_M_talks a_M_big 62 (10 : Int64) 63 (0 : Int64) v33 hc34) (zgV zw_922 zw_923 zw_924 zw_5 zw_925) rfl hd_X11_mixes ⟨rfl, rfl⟩ ⟨Nat.le_of_ble_eq_true rfl, Nat.le_of_ble_eq_true rfl⟩ 0 11 rfl rfl rfl hl.1 rfl (Nat.le_of_ble_eq_true rfl) dX11_night_144 hP hD hS hA hK hG (isC := [0, 2]) rfl (by decide +kernel) rfl ⟨Nat.zero_le _, Nat.zero_le _⟩ (pl := [some 0, none, some 1, none, none]) (nw := 5) rfl (by decide +kernel) (w2 := (ws_X11_night cI cJ cZ cA q_M q_M_refused q_M_big q_M_above q_M_below u_M_now u_M_images u_M_kept u_M_text u_M_size u_M_at u_M_begin u_M_kind u_M_value u_M_read u_M_acts u_M_act u_M_waits u_M_wait u_M_held u_M_place u_M_heap u_M_clocks u_M_counts u_M_talking u_M_most u_M_hasA u_M_hasB u_M_talks v_M_sign v_M_manyAbove v_M_manyBelow a_M_refused v33 a_M_above a_M_below)) rfl (st1 := []) rfl (fun H locs hP hD hS => ?_)
        refine lv_iinc (k := 4) (v := x4 + 1) (lv' := [(4, .int (x4 + 1)), (0, .ref q_M), (1, .int x1), (2, .int x2), (3, .int x3), (5, .int x5)]) hx hb dX11_night_147 hl rfl (zinc (by decide)) (by decide) rfl (fun ls hl => ?_)
        refine lv_goto (tgt := 87) hx hb dX11_night_150 (by decide) ?_
        exact hk87 (x4 + 1) v_M_sign v_M_manyAbove v_M_manyBelow a_M_refused v33 a_M_above a_M_below _ _ _ (lv_sub hl [1, 2, 3, 4, 0] rfl) hP hD hS hg
      · have hg := zn hg h99
        refine lv_aload_n hx hb dX11_night_102 rfl (lv_at hl 0 rfl) ?_
        refine lv_iload hx hb dX11_night_103 (lv_at hl 5 rfl) ?_
        refine lv_bipush (v := 10) hx hb dX11_night_105 (by decide) ?_
        refine lv_iload_n hx hb dX11_night_107 rfl (lv_at hl 2 rfl) ?_
        refine lv_isub hx hb dX11_night_108 ?_
        refine lv_i2l hx hb dX11_night_109 rfl ?_
        refine lv_iload hx hb dX11_night_110 (lv_at hl 5 rfl) ?_
        refine lv_if_ne (tgt := 120) hx hb dX11_night_112 (by decide) (fun h112 => ?_) (fun h112 => ?_)
        · have hg := zn hg h112
          refine lv_iload hx hb dX11_night_120 (lv_at hl 5 rfl) ?_
          refine lv_iconst (v := 1) hx hb dX11_night_122 (by decide) ?_
          refine lv_isub hx hb dX11_night_123 ?_
          exact B124 k87 hk87 (g_X11_night_97 x1 x2 x3 k87 n) ih x4 x5 x5 ((10 - x2).toInt64) (x5 - 1) v_M_sign v_M_manyAbove v_M_manyBelow a_M_refused a_M_big a_M_above a_M_below _ _ _ hl hP hD hS hg
        · have hg := zp hg h112
          refine lv_bipush (v := 63) hx hb dX11_night_115 (by decide) ?_
          refine lv_goto (tgt := 124) hx hb dX11_night_117 (by decide) ?_
          exact B124 k87 hk87 (g_X11_night_97 x1 x2 x3 k87 n) ih x4 x5 x5 ((10 - x2).toInt64) 63 v_M_sign v_M_manyAbove v_M_manyBelow a_M_refused a_M_big a_M_above a_M_below _ _ _ hl hP hD hS hg
  have B87 : ∀  (n : Nat) (x4 : Int32) (v_M_sign : Int32) (v_M_manyAbove : Int32) (v_M_manyBelow : Int32) (a_M_refused : Nat → Int32) (a_M_big : Nat → Int64) (a_M_above : Nat → Int32) (a_M_below : Nat → Int32) (H : Heap) (locs : List Loc) (ls : Array Slot) (hl : lv_has ls 6 [(0, .ref q_M), (1, .int x1), (2, .int x2), (3, .int x3), (4, .int x4)]) (hP : va_P D vwCl (ws_X11_night cI cJ cZ cA q_M q_M_refused q_M_big q_M_above q_M_below u_M_now u_M_images u_M_kept u_M_text u_M_size u_M_at u_M_begin u_M_kind u_M_value u_M_read u_M_acts u_M_act u_M_waits u_M_wait u_M_held u_M_place u_M_heap u_M_clocks u_M_counts u_M_talking u_M_most u_M_hasA u_M_hasB u_M_talks v_M_sign v_M_manyAbove v_M_manyBelow a_M_refused a_M_big a_M_above a_M_below) H) (hD : va_D A (ws_X11_night cI cJ cZ cA q_M q_M_refused q_M_big q_M_above q_M_below u_M_now u_M_images u_M_kept u_M_text u_M_size u_M_at u_M_begin u_M_kind u_M_value u_M_read u_M_acts u_M_act u_M_waits u_M_wait u_M_held u_M_place u_M_heap u_M_clocks u_M_counts u_M_talking u_M_most u_M_hasA u_M_hasB u_M_talks v_M_sign v_M_manyAbove v_M_manyBelow a_M_refused a_M_big a_M_above a_M_below)) (hS : va_S A s.heap H locs), g_X11_night_87 x1 x2 x3 n x4 v_M_sign v_M_manyAbove v_M_manyBelow a_M_refused a_M_big a_M_above a_M_below = some o → W p l e rm_X11_night s m args below meth c H locs 0 0 Q (F0 m 87 ls []) := by
    intro  n
    induction n with
    | zero => intro x4 v_M_sign v_M_manyAbove v_M_manyBelow a_M_refused a_M_big a_M_above a_M_below H locs ls hl hP hD hS hg; exact nomatch (show (none : Option (Int32 × Int32 × Int32 × Int32 × (Nat → Int32) × (Nat → Int64) × (Nat → Int32) × (Nat → Int32))) = some o from hg)
    | succ n ih =>
      intro x4 v_M_sign v_M_manyAbove v_M_manyBelow a_M_refused a_M_big a_M_above a_M_below H locs ls hl hP hD hS hg
      have hg : g_X11_night_87b x1 x2 x3 (g_X11_night_87 x1 x2 x3 n) x4 v_M_sign v_M_manyAbove v_M_manyBelow a_M_refused a_M_big a_M_above a_M_below = some o := hg
      refine lv_iload hx hb dX11_night_87 (lv_at hl 4 rfl) ?_
      refine lv_iload_n hx hb dX11_night_89 rfl (lv_at hl 1 rfl) ?_
      refine lv_icmp_gt (tgt := 153) hx hb dX11_night_90 (by decide) (fun h90 => ?_) (fun h90 => ?_)
      · have hg := zp hg h90
        refine lv_iload_n hx hb dX11_night_153 rfl (lv_at hl 3 rfl) ?_
        refine lv_istore (lv' := [(4, .int x3), (0, .ref q_M), (1, .int x1), (2, .int x2), (3, .int x3)]) hx hb dX11_night_154 hl (by decide) rfl (fun ls hl => ?_)
        exact B156 zF x3 v_M_sign v_M_manyAbove v_M_manyBelow a_M_refused a_M_big a_M_above a_M_below _ _ _ (lv_sub hl [1, 2, 0] rfl) hP hD hS hg
      · have hg := zn hg h90
        refine lv_iload hx hb dX11_night_93 (lv_at hl 4 rfl) ?_
        refine lv_istore (lv' := [(5, .int x4), (0, .ref q_M), (1, .int x1), (2, .int x2), (3, .int x3), (4, .int x4)]) hx hb dX11_night_95 hl (by decide) rfl (fun ls hl => ?_)
        exact B97 (g_X11_night_87 x1 x2 x3 n) ih zF x4 x4 v_M_sign v_M_manyAbove v_M_manyBelow a_M_refused a_M_big a_M_above a_M_below _ _ _ (lv_sub hl [1, 2, 3, 4, 5, 0] rfl) hP hD hS hg
  have B46 : ∀  (n : Nat) (x4 : Int32) (v_M_sign : Int32) (v_M_manyAbove : Int32) (v_M_manyBelow : Int32) (a_M_refused : Nat → Int32) (a_M_big : Nat → Int64) (a_M_above : Nat → Int32) (a_M_below : Nat → Int32) (H : Heap) (locs : List Loc) (ls : Array Slot) (hl : lv_has ls 6 [(0, .ref q_M), (1, .int x1), (2, .int x2), (3, .int x3), (4, .int x4)]) (hP : va_P D vwCl (ws_X11_night cI cJ cZ cA q_M q_M_refused q_M_big q_M_above q_M_below u_M_now u_M_images u_M_kept u_M_text u_M_size u_M_at u_M_begin u_M_kind u_M_value u_M_read u_M_acts u_M_act u_M_waits u_M_wait u_M_held u_M_place u_M_heap u_M_clocks u_M_counts u_M_talking u_M_most u_M_hasA u_M_hasB u_M_talks v_M_sign v_M_manyAbove v_M_manyBelow a_M_refused a_M_big a_M_above a_M_below) H) (hD : va_D A (ws_X11_night cI cJ cZ cA q_M q_M_refused q_M_big q_M_above q_M_below u_M_now u_M_images u_M_kept u_M_text u_M_size u_M_at u_M_begin u_M_kind u_M_value u_M_read u_M_acts u_M_act u_M_waits u_M_wait u_M_held u_M_place u_M_heap u_M_clocks u_M_counts u_M_talking u_M_most u_M_hasA u_M_hasB u_M_talks v_M_sign v_M_manyAbove v_M_manyBelow a_M_refused a_M_big a_M_above a_M_below)) (hS : va_S A s.heap H locs), g_X11_night_46 x1 x2 x3 n x4 v_M_sign v_M_manyAbove v_M_manyBelow a_M_refused a_M_big a_M_above a_M_below = some o → W p l e rm_X11_night s m args below meth c H locs 0 0 Q (F0 m 46 ls []) := by
    intro  n
    induction n with
    | zero => intro x4 v_M_sign v_M_manyAbove v_M_manyBelow a_M_refused a_M_big a_M_above a_M_below H locs ls hl hP hD hS hg; exact nomatch (show (none : Option (Int32 × Int32 × Int32 × Int32 × (Nat → Int32) × (Nat → Int64) × (Nat → Int32) × (Nat → Int32))) = some o from hg)
    | succ n ih =>
      intro x4 v_M_sign v_M_manyAbove v_M_manyBelow a_M_refused a_M_big a_M_above a_M_below H locs ls hl hP hD hS hg
      have hg : g_X11_night_46b x1 x2 x3 (g_X11_night_46 x1 x2 x3 n) x4 v_M_sign v_M_manyAbove v_M_manyBelow a_M_refused a_M_big a_M_above a_M_below = some o := hg
      refine lv_iload hx hb dX11_night_46 (lv_at hl 4 rfl) ?_
      refine lv_sipush (v := 512) hx hb dX11_night_48 (by decide) ?_
      refine lv_icmp_ge (tgt := 68) hx hb dX11_night_51 (by decide) (fun h51 => ?_) (fun h51 => ?_)
      · have hg := zp hg h51
        refine lv_aload_n hx hb dX11_night_68 rfl (lv_at hl 0 rfl) ?_
        refine zget (C := RX11) (T := TX11) (N := 31) S hK hP 0 rfl rfl 30 (Nat.le_of_ble_eq_true rfl) zf_11 zw_169 rfl dX11_night_69 ?_
        refine lv_iconst (v := 0) hx hb dX11_night_72 (by decide) ?_
        refine lv_lconst (v := 1) hx hb dX11_night_73 (by decide) ?_
        refine zlast hx hb hK hP hD hS 2 1 rfl rfl (j := 0) (zin (by decide)) (by decide) dX11_night_74 (w2 := (ws_X11_night cI cJ cZ cA q_M q_M_refused q_M_big q_M_above q_M_below u_M_now u_M_images u_M_kept u_M_text u_M_size u_M_at u_M_begin u_M_kind u_M_value u_M_read u_M_acts u_M_act u_M_waits u_M_wait u_M_held u_M_place u_M_heap u_M_clocks u_M_counts u_M_talking u_M_most u_M_hasA u_M_hasB u_M_talks v_M_sign v_M_manyAbove v_M_manyBelow a_M_refused (vp_updL a_M_big 0 (1 : Int64)) a_M_above a_M_below)) rfl (fun H locs hP hD hS => ?_)
        refine lv_aload_n hx hb dX11_night_75 rfl (lv_at hl 0 rfl) ?_
        refine zget (C := RX11) (T := TX11) (N := 31) S hK hP 0 rfl rfl 30 (Nat.le_of_ble_eq_true rfl) zf_11 zw_169 rfl dX11_night_76 ?_
        refine lv_sipush (v := 496) hx hb dX11_night_79 (by decide) ?_
        refine lv_lconst (v := 1) hx hb dX11_night_82 (by decide) ?_
        refine zlast hx hb hK hP hD hS 2 1 rfl rfl (j := 496) (zin (by decide)) (by decide) dX11_night_83 (w2 := (ws_X11_night cI cJ cZ cA q_M q_M_refused q_M_big q_M_above q_M_below u_M_now u_M_images u_M_kept u_M_text u_M_size u_M_at u_M_begin u_M_kind u_M_value u_M_read u_M_acts u_M_act u_M_waits u_M_wait u_M_held u_M_place u_M_heap u_M_clocks u_M_counts u_M_talking u_M_most u_M_hasA u_M_hasB u_M_talks v_M_sign v_M_manyAbove v_M_manyBelow a_M_refused (vp_updL (vp_updL a_M_big 0 (1 : Int64)) 496 (1 : Int64)) a_M_above a_M_below)) rfl (fun H locs hP hD hS => ?_)
        refine lv_iconst (v := 1) hx hb dX11_night_84 (by decide) ?_
        refine lv_istore (lv' := [(4, .int 1), (0, .ref q_M), (1, .int x1), (2, .int x2), (3, .int x3)]) hx hb dX11_night_85 hl (by decide) rfl (fun ls hl => ?_)
        exact B87 zF 1 v_M_sign v_M_manyAbove v_M_manyBelow a_M_refused (vp_updL (vp_updL a_M_big 0 (1 : Int64)) 496 (1 : Int64)) a_M_above a_M_below _ _ _ (lv_sub hl [1, 2, 3, 4, 0] rfl) hP hD hS hg
      · have hg := zn hg h51
        refine lv_aload_n hx hb dX11_night_54 rfl (lv_at hl 0 rfl) ?_
        refine zget (C := RX11) (T := TX11) (N := 31) S hK hP 0 rfl rfl 30 (Nat.le_of_ble_eq_true rfl) zf_11 zw_169 rfl dX11_night_55 ?_
        refine lv_iload hx hb dX11_night_58 (lv_at hl 4 rfl) ?_
        refine lv_lconst (v := 0) hx hb dX11_night_60 (by decide) ?_
        obtain ⟨h37, hg⟩ := zck hg
        refine zlast hx hb hK hP hD hS 2 1 rfl rfl (j := (x4.toNatClampNeg)) h37 rfl dX11_night_61 (w2 := (ws_X11_night cI cJ cZ cA q_M q_M_refused q_M_big q_M_above q_M_below u_M_now u_M_images u_M_kept u_M_text u_M_size u_M_at u_M_begin u_M_kind u_M_value u_M_read u_M_acts u_M_act u_M_waits u_M_wait u_M_held u_M_place u_M_heap u_M_clocks u_M_counts u_M_talking u_M_most u_M_hasA u_M_hasB u_M_talks v_M_sign v_M_manyAbove v_M_manyBelow a_M_refused (vp_updL a_M_big (x4.toNatClampNeg) (0 : Int64)) a_M_above a_M_below)) rfl (fun H locs hP hD hS => ?_)
        refine lv_iinc (k := 4) (v := x4 + 1) (lv' := [(4, .int (x4 + 1)), (0, .ref q_M), (1, .int x1), (2, .int x2), (3, .int x3)]) hx hb dX11_night_62 hl rfl (zinc (by decide)) (by decide) rfl (fun ls hl => ?_)
        refine lv_goto (tgt := 46) hx hb dX11_night_65 (by decide) ?_
        exact ih (x4 + 1) v_M_sign v_M_manyAbove v_M_manyBelow a_M_refused (vp_updL a_M_big (x4.toNatClampNeg) (0 : Int64)) a_M_above a_M_below _ _ _ (lv_sub hl [1, 2, 3, 4, 0] rfl) hP hD hS hg
  refine lv_iload_n hx hb dX11_night_0 rfl (lv_at hl 1 rfl) ?_
  refine lv_i2l hx hb dX11_night_1 rfl ?_
  refine lv_lconst (v := 0) hx hb dX11_night_2 (by decide) ?_
  refine lv_ldc2 (v := 60) hx hb S.2.2.2.1 (ht _ zw_750) dX11_night_3 ?_
  obtain ⟨v1, hc2, hg⟩ := zbd hg
  refine zcallS (rest := []) S (c_X11_in l D cI cJ cZ cA ga x1.toInt64 (0 : Int64) (60 : Int64) v1 hc2) (zgS zw_220 zw_221 zw_5 zw_222) rfl hd_X11_in ⟨rfl, rfl⟩ ⟨Nat.le_of_ble_eq_true rfl, Nat.le_of_ble_eq_true rfl⟩ rfl hl.1 rfl (Nat.le_of_ble_eq_true rfl) dX11_night_6 hP hD hS hA hK hG (isC := []) rfl (by decide +kernel) rfl ⟨Nat.zero_le _, Nat.zero_le _⟩ (pl := [none, none, none, none, none]) (nw := 5) rfl (by decide +kernel) (w2 := (ws_X11_night cI cJ cZ cA q_M q_M_refused q_M_big q_M_above q_M_below u_M_now u_M_images u_M_kept u_M_text u_M_size u_M_at u_M_begin u_M_kind u_M_value u_M_read u_M_acts u_M_act u_M_waits u_M_wait u_M_held u_M_place u_M_heap u_M_clocks u_M_counts u_M_talking u_M_most u_M_hasA u_M_hasB u_M_talks v_M_sign v_M_manyAbove v_M_manyBelow a_M_refused a_M_big a_M_above a_M_below)) rfl (st1 := [.int v1]) rfl (fun H locs hP hD hS => ?_)
  refine lv_if_eq (tgt := 36) hx hb dX11_night_9 (by decide) (fun h9 => ?_) (fun h9 => ?_)
  · have hg := zp hg h9
    exact B36 v_M_sign v_M_manyAbove v_M_manyBelow a_M_refused a_M_big a_M_above a_M_below _ _ _ (lv_sub hl [0] rfl) hP hD hS hg
  · have hg := zn hg h9
    refine lv_iload_n hx hb dX11_night_12 rfl (lv_at hl 2 rfl) ?_
    refine lv_i2l hx hb dX11_night_13 rfl ?_
    refine lv_lconst (v := 0) hx hb dX11_night_14 (by decide) ?_
    refine lv_ldc2 (v := 10) hx hb S.2.2.2.1 (ht _ zw_471) dX11_night_15 ?_
    obtain ⟨v5, hc6, hg⟩ := zbd hg
    refine zcallS (rest := []) S (c_X11_in l D cI cJ cZ cA ga x2.toInt64 (0 : Int64) (10 : Int64) v5 hc6) (zgS zw_220 zw_221 zw_5 zw_222) rfl hd_X11_in ⟨rfl, rfl⟩ ⟨Nat.le_of_ble_eq_true rfl, Nat.le_of_ble_eq_true rfl⟩ rfl hl.1 rfl (Nat.le_of_ble_eq_true rfl) dX11_night_18 hP hD hS hA hK hG (isC := []) rfl (by decide +kernel) rfl ⟨Nat.zero_le _, Nat.zero_le _⟩ (pl := [none, none, none, none, none]) (nw := 5) rfl (by decide +kernel) (w2 := (ws_X11_night cI cJ cZ cA q_M q_M_refused q_M_big q_M_above q_M_below u_M_now u_M_images u_M_kept u_M_text u_M_size u_M_at u_M_begin u_M_kind u_M_value u_M_read u_M_acts u_M_act u_M_waits u_M_wait u_M_held u_M_place u_M_heap u_M_clocks u_M_counts u_M_talking u_M_most u_M_hasA u_M_hasB u_M_talks v_M_sign v_M_manyAbove v_M_manyBelow a_M_refused a_M_big a_M_above a_M_below)) rfl (st1 := [.int v5]) rfl (fun H locs hP hD hS => ?_)
    refine lv_if_eq (tgt := 36) hx hb dX11_night_21 (by decide) (fun h21 => ?_) (fun h21 => ?_)
    · have hg := zp hg h21
      exact B36 v_M_sign v_M_manyAbove v_M_manyBelow a_M_refused a_M_big a_M_above a_M_below _ _ _ (lv_sub hl [0] rfl) hP hD hS hg
    · have hg := zn hg h21
      refine lv_iload_n hx hb dX11_night_24 rfl (lv_at hl 3 rfl) ?_
      refine lv_i2l hx hb dX11_night_25 rfl ?_
      refine lv_lconst (v := 0) hx hb dX11_night_26 (by decide) ?_
      refine lv_ldc2 (v := 60) hx hb S.2.2.2.1 (ht _ zw_750) dX11_night_27 ?_
      obtain ⟨v7, hc8, hg⟩ := zbd hg
      refine zcallS (rest := []) S (c_X11_in l D cI cJ cZ cA ga x3.toInt64 (0 : Int64) (60 : Int64) v7 hc8) (zgS zw_220 zw_221 zw_5 zw_222) rfl hd_X11_in ⟨rfl, rfl⟩ ⟨Nat.le_of_ble_eq_true rfl, Nat.le_of_ble_eq_true rfl⟩ rfl hl.1 rfl (Nat.le_of_ble_eq_true rfl) dX11_night_30 hP hD hS hA hK hG (isC := []) rfl (by decide +kernel) rfl ⟨Nat.zero_le _, Nat.zero_le _⟩ (pl := [none, none, none, none, none]) (nw := 5) rfl (by decide +kernel) (w2 := (ws_X11_night cI cJ cZ cA q_M q_M_refused q_M_big q_M_above q_M_below u_M_now u_M_images u_M_kept u_M_text u_M_size u_M_at u_M_begin u_M_kind u_M_value u_M_read u_M_acts u_M_act u_M_waits u_M_wait u_M_held u_M_place u_M_heap u_M_clocks u_M_counts u_M_talking u_M_most u_M_hasA u_M_hasB u_M_talks v_M_sign v_M_manyAbove v_M_manyBelow a_M_refused a_M_big a_M_above a_M_below)) rfl (st1 := [.int v7]) rfl (fun H locs hP hD hS => ?_)
      refine lv_if_ne (tgt := 43) hx hb dX11_night_33 (by decide) (fun h33 => ?_) (fun h33 => ?_)
      · have hg := zn hg h33
        refine lv_iconst (v := 0) hx hb dX11_night_43 (by decide) ?_
        refine lv_istore (lv' := [(4, .int 0), (0, .ref q_M), (1, .int x1), (2, .int x2), (3, .int x3)]) hx hb dX11_night_44 hl (by decide) rfl (fun ls hl => ?_)
        exact B46 zF 0 v_M_sign v_M_manyAbove v_M_manyBelow a_M_refused a_M_big a_M_above a_M_below _ _ _ (lv_sub hl [1, 2, 3, 4, 0] rfl) hP hD hS hg
      · have hg := zp hg h33
        exact B36 v_M_sign v_M_manyAbove v_M_manyBelow a_M_refused a_M_big a_M_above a_M_below _ _ _ (lv_sub hl [0] rfl) hP hD hS hg

