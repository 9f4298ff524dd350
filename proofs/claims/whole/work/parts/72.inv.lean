/-! WHAT HOLDS BETWEEN CALLS, all of it -/
/-- by whom it may have been talked -/
def gAll (w : Nat → Int32) (np s : Nat) : Bool := (List.range 5).all fun p => !TB (nI s) p || (decide (p < np) && decide (w (18 + p) = 0))
def gSee (w : Nat → Int32) (tv : TVT) (np nt ns s : Nat) : Bool := (List.range ns).all fun k => decide (cw w tv (nI s) nt np 0 (tn (w (95 + k))) = w (105 + k))
def gq (w : Nat → Int32) (tv : TVT) (np nt ns s : Nat) : Bool := gAll w np s && gSee w tv np nt ns s
def gmany (q : Nat → Bool) : Nat → Nat
  | 0 => 0
  | s + 1 => if q s = true then gmany q s + 1 else gmany q s
def gleast (q : Nat → Bool) : Nat → Int32
  | 0 => -1
  | s + 1 => if q s = true ∧ gleast q s = -1 then nI s else gleast q s
def gsure (q : Nat → Bool) : Nat → Int32
  | 0 => -1
  | s + 1 => if q s = true then gsure q s &&& nI s else gsure q s
def GuessOK (w : Nat → Int32) (tv : TVT) (np nt ns : Nat) (sets least surely : Int32) : Prop := sets = nI (gmany (gq w tv np nt ns) 32) ∧ least = gleast (gq w tv np nt ns) 32 ∧ surely = gsure (gq w tv np nt ns) 32
def cG (w : Nat → Int32) (size fault stale : Int32) (row : Nat → Int32) (dst gst sets least surely : Int32) : Prop := gst = 0 → (stale = 0 ∧ dst = 0) ∧ ∃ tv, RT (fun j => w (115 + j)) (tn (w 7)) (w 2) (w 0) size fault row tv ∧ GuessOK w tv (tn (w 3)) (tn (w 4)) (tn (w 6)) sets least surely
/-- what a minute's dues bring -/
def pS (w : Nat → Int32) (m c : Nat) : Nat → Int32
  | 0 => 0
  | d + 1 => pS w m c d + (if w (79 + d) = nI m ∧ w (71 + d) ≤ nI c then w (87 + d) else 0)
def pB (f : Nat → Int32) : Nat → Int32
  | 0 => f 0
  | g + 1 => if pB f g < f (g + 1) then f (g + 1) else pB f g
def pG (f : Nat → Int32) : Nat → Nat
  | 0 => 0
  | g + 1 => if pB f g < f (g + 1) then g + 1 else pG f g
/-- what is left to have, so many minutes before the last, at a clock -/
def pM (w : Nat → Int32) (k nd : Nat) : Nat → Nat → Int32
  | 0, c => pS w 99 c nd
  | r + 1, c => pB (fun g => pM w k nd r (min (c + g) 99) - nI (k * g)) (tn (w 0)) + pS w (98 - r) c nd
def pP (w : Nat → Int32) (k nd m c : Nat) : Nat := pG (fun g => pM w k nd (98 - m) (min (c + g) 99) - nI (k * g)) (tn (w 0))
def PlanOK (w : Nat → Int32) (nd : Nat) (price : Int32) (most : Nat → Int32) (steps : Nat → Int64) : Prop := ∃ k, k ≤ 9 ∧ price = nI k ∧ most 0 = pM w k nd 99 0 ∧ most 1 = pM w k nd 99 1 ∧ ∀ m, m < 99 → ∀ c, c ≤ 99 → c ≤ tn (w 0) * m → g_X4_stepAt steps (nI m) (nI c) = some (nI (pP w k nd m c))
def cP (w : Nat → Int32) (pst price : Int32) (most : Nat → Int32) (steps : Nat → Int64) : Prop := pst = 0 → PlanOK w (tn (w 5)) price most steps
/-- the text -/
def iT (s s' : Int32) (f g : Nat → Int32) : Prop := ∃ n, n ≤ 250 ∧ s = nI n ∧ s' = nI n ∧ ∀ j, j < n → f j = g j ∧ 0 ≤ (f j).toInt ∧ (f j).toInt ≤ 255
/-- what was refused -/
def iR (f g : Nat → Int32) : Prop := f 0 = g 0 ∧ f 1 = g 1 ∧ f 2 = g 2
/-- an image -/
def iM (k k' : Int32) (s0 s1 s2 s3 s4 : Int32) (c0 c1 c2 c3 c4 se sk w : Nat → Int32) : Prop := k = k' ∧ (k ≠ 0 → RS s0 s1 s2 s3 s4 c0 c1 c2 c3 c4 se sk w)
def SZ (f : Nat → Int32) (n : Nat) : Prop := n ≤ 8 ∧ (∀ j, n ≤ j → j < 8 → f j = 0) ∧ (0 < n → f (n - 1) ≠ 0)
/-- the chance -/
def FR (al bl : Nat → Int32) (sg ma mb : Int32) (am bm : Nat → Int32) : Prop := ∃ na nb, SZ al na ∧ SZ bl nb ∧ ma = nI na ∧ mb = nI nb ∧ sg = (if na = 0 then 0 else 1) ∧ (∀ j, j < na → am j = al j) ∧ (∀ j, j < nb → bm j = bl j)
def Inv (I : Nat → Int32) (Aa : Nat → Nat → Int32) (J : Nat → Nat → Int64) (V : Int64) : Prop :=
  RS (I 0) (I 1) (I 2) (I 3) (I 4) (Aa 0) (Aa 1) (Aa 2) (Aa 3) (Aa 4) (Aa 5) (Aa 6) (Aa 45) ∧
  iT (I 10) (I 38) (Aa 14) (Aa 48) ∧
  iR (Aa 44) (Aa 51) ∧
  (iM (Aa 43 0) (Aa 47 0) (I 28) (I 29) (I 30) (I 31) (I 32) (Aa 29) (Aa 30) (Aa 31) (Aa 32) (Aa 33) (Aa 34) (Aa 35) (fun k => Aa 46 k) ∧
  iM (Aa 43 1) (Aa 47 1) (I 33) (I 34) (I 35) (I 36) (I 37) (Aa 36) (Aa 37) (Aa 38) (Aa 39) (Aa 40) (Aa 41) (Aa 42) (fun k => Aa 46 (155 + k))) ∧
  FR (Aa 26) (Aa 27) (I 39) (I 40) (I 41) (Aa 49) (Aa 50) ∧
  (cR (Aa 45) (I 15) (I 17) (I 18) (Aa 16) ∧
  cD (Aa 45) (I 15) (I 17) (I 18) (Aa 16) (I 19) (Aa 18) (Aa 19) (Aa 20) ∧
  cG (Aa 45) (I 15) (I 17) (I 18) (Aa 16) (I 19) (I 25) (I 22) (I 23) (I 24)) ∧
  cP (Aa 45) (I 21) (I 20) (Aa 21) (J 1)
theorem iR_0 {f g : Nat → Int32} (h : iR f g) : iR (upd f 0 (f 0 + 1)) (upd g 0 (g 0 + 1)) := ⟨by show f 0 + 1 = g 0 + 1; rw [h.1], h.2.1, h.2.2⟩
theorem iR_1 {f g : Nat → Int32} (h : iR f g) : iR (upd f 1 (f 1 + 1)) (upd g 1 (g 1 + 1)) := ⟨h.1, by show f 1 + 1 = g 1 + 1; rw [h.2.1], h.2.2⟩
theorem iR_2 {f g : Nat → Int32} (h : iR f g) : iR (upd f 2 (f 2 + 1)) (upd g 2 (g 2 + 1)) := ⟨h.1, h.2.1, by show f 2 + 1 = g 2 + 1; rw [h.2.2]⟩
section
variable {w : Nat → Int32} {np nt nd ns nr : Nat} {size fault stale dst gst sets least surely size' fault' : Int32} {row row' T C0 C1 : Nat → Int32} {tv : TVT}
/-- after the day was prepared -/
theorem ic_prep (hG : RG w np nt nd ns nr) (hg : cG w size fault stale row dst gst sets least surely) (h1 : RT (fun j => w (115 + j)) nr (w 2) (w 0) size' fault' row' tv) (h2 : DOK w tv nt np T C0 C1) (h3 : dst = 0 → size' = size ∧ fault' = fault ∧ row' = row) :
    cR w size' fault' 0 row' ∧ cD w size' fault' 0 row' 0 T C0 C1 ∧ cG w size' fault' 0 row' 0 gst sets least surely := by
  have hn := rg_np hG
  refine ⟨fun _ => ⟨tv, by rw [hn.2.2.2.2]; exact h1⟩, fun _ => ⟨rfl, tv, by rw [hn.2.2.2.2]; exact h1, by rw [hn.1, hn.2.1]; exact h2⟩, fun e => ?_⟩
  obtain ⟨⟨_, g2⟩, g3⟩ := hg e
  obtain ⟨rfl, rfl, rfl⟩ := h3 g2
  exact ⟨⟨rfl, rfl⟩, g3⟩
/-- after a change -/
theorem ic_chg (w : Nat → Int32) (size fault : Int32) (row T C0 C1 : Nat → Int32) (sets least surely : Int32) : cR w size fault 1 row ∧ cD w size fault 1 row 1 T C0 C1 ∧ cG w size fault 1 row 1 1 sets least surely := ⟨fun e => absurd e (by decide), fun e => absurd e (by decide), fun e => absurd e (by decide)⟩
theorem cp_chg (w : Nat → Int32) (price : Int32) (most : Nat → Int32) (steps : Nat → Int64) : cP w 1 price most steps := fun e => absurd e (by decide)
end
