/-! BASE: what every walk of a method shares: the global facts (nest words, tables, texts), the form of a contract, a call's frame, a method's entry -/
def zWID : Nat → Int32 := fun j => ([1, 1, 1, 2, 3, 3, 2] : List Int32).getD j 0
def zLEA : Nat → Int32 := fun j => ([1, 0, 0, 0, 0, 0, 0, 0, 0, 0, 0, 0, 0, 0, 0, 0, 0, -99, 0, 0, 0] : List Int32).getD j 0
def zMOS : Nat → Int32 := fun j => ([4, 0, 0, 1, 0, 0, 240, 0, 0, 5, 1, 0, 4, 239, 240, 99, 99, 99, 240, 999, 0] : List Int32).getD j 0
def zT (ga : Nat → Nat) (A : Nat → Prop) (U : State) (H : Heap) : Prop :=
  va_Z "SpokenClock" "WIDTHS" "[I" (.ref (ga 0)) A U H ∧ va_T .int (ga 0) 7 (fun j => .int (zWID j)) A U H ∧
  va_Z "SpokenClock" "LEAST" "[I" (.ref (ga 1)) A U H ∧ va_T .int (ga 1) 21 (fun j => .int (zLEA j)) A U H ∧
  va_Z "SpokenClock" "MOST" "[I" (.ref (ga 2)) A U H ∧ va_T .int (ga 2) 21 (fun j => .int (zMOS j)) A U H
theorem zT.moved {ga : Nat → Nat} {A : Nat → Prop} {u U : State} {H : Heap} (hvm : u.vm.Alike U.vm) (h : zT ga A u H) : zT ga A U H :=
  ⟨h.1.moved hvm, h.2.1.moved hvm, h.2.2.1.moved hvm, h.2.2.2.1.moved hvm, h.2.2.2.2.1.moved hvm, h.2.2.2.2.2.moved hvm⟩
theorem zT.kept {ga : Nat → Nat} {A : Nat → Prop} {U : State} {H H1 : Heap} (h : zT ga A U H) (hq : ∀ a : Nat, a < H.size → ¬ A a → H1[a]? = H[a]?) : zT ga A U H1 :=
  ⟨h.1.kept hq, h.2.1.kept hq, h.2.2.1.kept hq, h.2.2.2.1.kept hq, h.2.2.2.2.1.kept hq, h.2.2.2.2.2.kept hq⟩
theorem zT.narrow {ga : Nat → Nat} {A B : Nat → Prop} {U : State} {H : Heap} (h : zT ga A U H) (hAB : ∀ q, B q → A q) : zT ga B U H :=
  ⟨h.1.narrow hAB, h.2.1.narrow hAB, h.2.2.1.narrow hAB, h.2.2.2.1.narrow hAB, h.2.2.2.2.1.narrow hAB, h.2.2.2.2.2.narrow hAB⟩
def zLen : List Nat := [4, 5, 3, 6, 4, 3, 5]
def zByt : List (List Int32) := [[102, 97, 115, 116], [115, 111, 110, 103, 115], [98, 101, 100], [112, 101, 114, 115, 111, 110], [116, 97, 108, 107], [100, 117, 101], [115, 105, 103, 104, 116]]
def zS (ga : Nat → Nat) (A : Nat → Prop) (U : State) (H : Heap) : Prop :=
  vk_S 7 zLen zByt (fun i => ga (3 + i)) (fun i => ga (10 + i)) A U H ∧
  va_Z "java/lang/String" "COMPACT_STRINGS" "Z" (.int 1) A U H ∧ va_Zq "jdk/internal/util/Preconditions" "SIOOBE_FORMATTER" "Ljava/util/function/BiFunction;" A U H
theorem zS.moved {ga : Nat → Nat} {A : Nat → Prop} {u U : State} {H : Heap} (hvm : u.vm.Alike U.vm) (h : zS ga A u H) : zS ga A U H := ⟨h.1.moved hvm, h.2.1.moved hvm, h.2.2.moved hvm⟩
theorem zS.kept {ga : Nat → Nat} {A : Nat → Prop} {U : State} {H H1 : Heap} (h : zS ga A U H) (hq : ∀ a : Nat, a < H.size → ¬ A a → H1[a]? = H[a]?) : zS ga A U H1 := ⟨h.1.kept hq, h.2.1.kept hq, h.2.2.kept hq⟩
theorem zS.narrow {ga : Nat → Nat} {A B : Nat → Prop} {U : State} {H : Heap} (h : zS ga A U H) (hAB : ∀ q, B q → A q) : zS ga B U H := ⟨h.1.narrow hAB, h.2.1.narrow hAB, h.2.2.narrow hAB⟩
/-- an array class over rows of numbers may be made -/
def zAO (U : State) : Prop := (Cond.arrayOver (.array .int)).before #[] U = true
theorem zAO.spec {U : State} (h : zAO U) : ∃ comp c k, U.vm.findClass (FieldType.array .int).toString = some comp ∧ (U.vm.classes.findIdx? fun x => match x.kind with | .array component _ => component == comp | _ => false) = some c ∧ U.vm.classes[c]? = some k ∧ k.kind = .array comp (.array .int) ∧ U.vm.findClass ("[" ++ (FieldType.array .int).toString) = some c := by
  simp only [zAO, Cond.before, Cond.holds, Cond.value, beq_iff_eq] at h
  cases hc : U.vm.findClass (FieldType.array .int).toString with
  | none => simp [hc] at h
  | some comp =>
    simp only [hc, Option.bind_some, Option.bind_eq_some_iff, Option.map_eq_some_iff] at h
    obtain ⟨c, hi, k, hk, hb⟩ := h
    obtain ⟨hlt, hp, -⟩ := Array.findIdx?_eq_some_iff_getElem.mp hi
    have hkk : U.vm.classes[c] = k := (Array.getElem?_eq_some_iff.mp hk).2
    rw [hkk] at hp
    cases hkind : k.kind with
    | array component ty =>
      rw [hkind] at hb hp
      simp at hb hp
      exact ⟨comp, c, k, rfl, hi, hk, by rw [hkind, hp, hb.1], hb.2⟩
    | _ => rw [hkind] at hb; simp at hb
theorem zAO.moved {u U : State} (hvm : u.vm.Alike U.vm) (h : zAO u) : zAO U := by
  obtain ⟨comp, c, k, h1, h2, h3, h4, h5⟩ := zAO.spec h
  obtain ⟨k', hk', he⟩ := hvm.2.2 _ _ h3
  have hi : (U.vm.classes.findIdx? fun (x : Class) => match x.kind with | .array component _ => component == comp | _ => false) = some c := by
    have e1 := va_idx_bare U.vm comp
    have e2 := va_idx_bare u.vm comp
    have e3 : U.vm.bare = u.vm.bare := by first | exact hvm.bare_eq | exact hvm.bare_eq.symm
    rw [e3] at e1
    exact (e1.symm.trans e2).trans h2
  have hkind : k'.kind = .array comp (.array .int) := by rw [he]; exact h4
  have f1 : U.vm.findClass (FieldType.array .int).toString = some comp := by rw [hvm.findClass]; exact h1
  have f2 : U.vm.findClass ("[" ++ (FieldType.array .int).toString) = some c := by rw [hvm.findClass]; exact h5
  unfold zAO Cond.before Cond.holds
  simp only [Cond.value]
  rw [f1, Option.bind_some]
  refine (congrArg (fun o : Option Nat => (o.bind (fun c => (U.vm.classes[c]?).map fun (k : Class) => match k.kind with | .array _ ty => decide (ty = FieldType.array .int) && decide (U.vm.findClass ("[" ++ (FieldType.array .int).toString) = some c) | _ => false) == some true)) hi).trans ?_
  simp [hk', hkind, f2]
/-- the words of the tables about members of nest mates, and the texts' own -/
def zN (ga : Nat → Nat) (U : State) : Prop :=
  (va_Nw (.fieldLinkNest RX6 58 "SpokenClock" "WIDTHS" "[I" "SpokenClock") U ∧ va_Nw (.fieldLinkNest RX9 11 "SpokenClock" "WIDTHS" "[I" "SpokenClock") U ∧
   va_Nw (.fieldLinkNest RX9 42 "SpokenClock" "LEAST" "[I" "SpokenClock") U ∧ va_Nw (.fieldLinkNest RX9 45 "SpokenClock" "MOST" "[I" "SpokenClock") U ∧ zAO U) ∧
  (va_Nw (.methodLinkNest RX10 18 yX2_init "SpokenClock") U ∧ va_Nw (.methodLinkNest RX10 25 yX9_init "SpokenClock") U ∧ va_Nw (.methodLinkNest RX10 9 yX5_init "SpokenClock") U ∧
   va_Nw (.methodLinkNest RX1 32 yX10_isValley "SpokenClock") U ∧ va_Nw (.methodLinkNest RX1 36 yX10_isIn "SpokenClock") U ∧ va_Nw (.methodLinkNest RX3 74 yX10_isIn "SpokenClock") U ∧
   va_Nw (.methodLinkNest RX4 31 yX10_isIn "SpokenClock") U ∧ va_Nw (.methodLinkNest RX5 21 yX10_isIn "SpokenClock") U) ∧
  (vk_R RX6 116 "fast" (ga 3) U ∧ vk_R RX6 118 "songs" (ga 4) U ∧ vk_R RX6 120 "bed" (ga 5) U ∧ vk_R RX6 122 "person" (ga 6) U ∧ vk_R RX6 124 "talk" (ga 7) U ∧ vk_R RX6 126 "due" (ga 8) U ∧ vk_R RX6 128 "sight" (ga 9) U)
theorem zN.same {ga : Nat → Nat} {u U : State} (hv : U.vm = u.vm) (h : zN ga u) : zN ga U := by
  obtain ⟨⟨a1, a2, a3, a4, a5⟩, ⟨b1, b2, b3, b4, b5, b6, b7, b8⟩, ⟨k1, k2, k3, k4, k5, k6, k7⟩⟩ := h
  exact ⟨⟨a1.same rfl hv.symm, a2.same rfl hv.symm, a3.same rfl hv.symm, a4.same rfl hv.symm, a5.moved (hv ▸ Vm.Alike.refl u.vm)⟩, ⟨b1.same rfl hv.symm, b2.same rfl hv.symm, b3.same rfl hv.symm, b4.same rfl hv.symm, b5.same rfl hv.symm, b6.same rfl hv.symm, b7.same rfl hv.symm, b8.same rfl hv.symm⟩, ⟨k1.same hv, k2.same hv, k3.same hv, k4.same hv, k5.same hv, k6.same hv, k7.same hv⟩⟩
theorem zN.warm {ga : Nat → Nat} {s U : State} (hW : s.WarmedH U.vm) (h : zN ga s) : zN ga U := by
  obtain ⟨⟨a1, a2, a3, a4, a5⟩, ⟨b1, b2, b3, b4, b5, b6, b7, b8⟩, ⟨k1, k2, k3, k4, k5, k6, k7⟩⟩ := h
  exact ⟨⟨va_Nw.warmF hW a1, va_Nw.warmF hW a2, va_Nw.warmF hW a3, va_Nw.warmF hW a4, a5.moved hW.alike⟩, ⟨va_Nw.warmM hW b1, va_Nw.warmM hW b2, va_Nw.warmM hW b3, va_Nw.warmM hW b4, va_Nw.warmM hW b5, va_Nw.warmM hW b6, va_Nw.warmM hW b7, va_Nw.warmM hW b8⟩, ⟨k1.warm hW, k2.warm hW, k3.warm hW, k4.warm hW, k5.warm hW, k6.warm hW, k7.warm hW⟩⟩
def zG (ga : Nat → Nat) (A : Nat → Prop) (U : State) (H : Heap) : Prop := zN ga U ∧ zT ga A U H ∧ zS ga A U H
theorem zG.same {ga : Nat → Nat} {A : Nat → Prop} {u U : State} {H : Heap} (hv : U.vm = u.vm) (h : zG ga A u H) : zG ga A U H := ⟨h.1.same hv, h.2.1.moved (hv ▸ Vm.Alike.refl u.vm), h.2.2.moved (hv ▸ Vm.Alike.refl u.vm)⟩
theorem zG.warm {ga : Nat → Nat} {A : Nat → Prop} {s U : State} {H : Heap} (hW : s.WarmedH U.vm) (h : zG ga A s H) : zG ga A U H := ⟨h.1.warm hW, h.2.1.moved hW.alike, h.2.2.moved hW.alike⟩
theorem zG.kept {ga : Nat → Nat} {A : Nat → Prop} {U : State} {H H1 : Heap} (h : zG ga A U H) (hq : ∀ a : Nat, a < H.size → ¬ A a → H1[a]? = H[a]?) : zG ga A U H1 := ⟨h.1, h.2.1.kept hq, h.2.2.kept hq⟩
theorem zG.narrow {ga : Nat → Nat} {A B : Nat → Prop} {U : State} {H : Heap} (h : zG ga A U H) (hAB : ∀ q, B q → A q) : zG ga B U H := ⟨h.1, h.2.1.narrow hAB, h.2.2.narrow hAB⟩
abbrev zTy (cI cJ cZ cA : ClassId) : List (ClassId × FieldType) := [(cI, .int), (cJ, .long), (cZ, .boolean), (cA, .array .int)]
/-- a contract's start: the arguments, the world wc, apart, the global facts -/
def zPc (D : va_G) (tys : List (ClassId × FieldType)) (ga : Nat → Nat) (av : List Value) (wc : va_W) (sz : Nat) : Array Value → State → Prop :=
  va_Pc av (fun U => U.heap.size = sz ∧ va_P D vwCl wc U.heap ∧ va_K D vwCl tys U ∧ va_D (fun _ => True) wc ∧ zG ga (va_A wc sz) U U.heap)
/-- its end: this answer, the world w1, nothing else changed -/
def zQ (D : va_G) (w1 : va_W) (ro : Option Value) (A : Nat → Prop) : Array Value → State → Outcome → State → Prop := fun _ st oc t => oc = .returned ro ∧ va_P D vwCl w1 t.heap ∧ va_F A st t
/-- a contract: no cell is made -/
def zM (l : Launch) (y : MethodName) (wsc : List Cond) (rm : Room) (D : va_G) (tys : List (ClassId × FieldType)) (ga : Nat → Nat) (av : List Value) (wc w1 : va_W) (ro : Option Value) : Prop :=
  ∀ sz : Nat, Met l y wsc rm (zPc D tys ga av wc sz) (zQ D w1 ro (va_A wc sz)) 0 0 (va_A wc sz)
theorem zPc_blind {D : va_G} {tys : List (ClassId × FieldType)} {ga : Nat → Nat} {av : List Value} {wc : va_W} {sz : Nat} : FrameBlind (zPc D tys ga av wc sz) := fun a U g mk q => by
  obtain ⟨q0, q1, qP, qK, qD, qG⟩ := q
  exact ⟨q0, q1, qP, va_K.moved (u := U) (U := U.calling g mk a) (Vm.Alike.refl U.vm) qK, qD, zG.same (u := U) (U := U.calling g mk a) rfl qG⟩
/-- cells of a world replaced: place k holds w1's j, where the plan says some j -/
def zmer : va_W → List (Option Nat) → va_W → va_W
  | q :: ws, some j :: pl, w1 => (match w1[j]? with | some x => x | none => q) :: zmer ws pl w1
  | q :: ws, none :: pl, w1 => q :: zmer ws pl w1
  | ws, [], _ => ws
  | [], _ :: _, _ => []
/-- the plan is the places' own -/
def zok (isC : List Nat) (pl : List (Option Nat)) (n : Nat) : Bool := decide (pl.length = n) && (List.range n).all (fun k => match pl[k]? with | some (some j) => decide (isC[j]? = some k) | some none => decide (k ∉ isC) | none => false)
theorem zmer_get : ∀ (ws : va_W) (pl : List (Option Nat)) (w1 : va_W), pl.length = ws.length → ∀ (k : Nat) (q : Nat × va_E), (zmer ws pl w1)[k]? = some q → (∃ (j : Nat) (q0 : Nat × va_E), pl[k]? = some (some j) ∧ ws[k]? = some q0 ∧ q = (match w1[j]? with | some x => x | none => q0)) ∨ (pl[k]? = some none ∧ ws[k]? = some q)
  | [], [], w1, _, k, q, h => by simp [zmer] at h
  | [], _ :: _, w1, hl, k, q, h => by simp at hl
  | _ :: _, [], w1, hl, k, q, h => by simp at hl
  | q0 :: ws, some j :: pl, w1, hl, k, q, h => by
    rw [zmer] at h
    cases k with
    | zero =>
      rw [List.getElem?_cons_zero] at h
      exact Or.inl ⟨j, q0, rfl, rfl, (Option.some.inj h).symm⟩
    | succ k =>
      rw [List.getElem?_cons_succ] at h
      rw [List.getElem?_cons_succ, List.getElem?_cons_succ]
      exact zmer_get ws pl w1 (by simpa using hl) k q h
  | q0 :: ws, none :: pl, w1, hl, k, q, h => by
    rw [zmer] at h
    cases k with
    | zero =>
      rw [List.getElem?_cons_zero] at h
      exact Or.inr ⟨rfl, h⟩
    | succ k =>
      rw [List.getElem?_cons_succ] at h
      rw [List.getElem?_cons_succ, List.getElem?_cons_succ]
      exact zmer_get ws pl w1 (by simpa using hl) k q h
theorem zput_get (isC : List Nat) (w1 ws : va_W) (pl : List (Option Nat)) (hl : isC.length = w1.length) (hpl : zok isC pl ws.length = true) (k : Nat) (q : Nat × va_E) (h : (zmer ws pl w1)[k]? = some q) : (∃ j : Nat, isC[j]? = some k ∧ w1[j]? = some q) ∨ (k ∉ isC ∧ ws[k]? = some q) := by
  unfold zok at hpl
  rw [Bool.and_eq_true, decide_eq_true_eq] at hpl
  have hal := List.all_eq_true.mp hpl.2
  rcases zmer_get ws pl w1 hpl.1 k q h with ⟨j, q0, h1, h2, h3⟩ | ⟨h1, h2⟩
  · have hk : k < ws.length := (List.getElem?_eq_some_iff.mp h2).1
    have hz := hal k (List.mem_range.mpr hk)
    rw [h1] at hz
    have hj : isC[j]? = some k := by simpa using hz
    have hjl : j < isC.length := (List.getElem?_eq_some_iff.mp hj).1
    have hj1 : w1[j]? = some (w1[j]'(by omega)) := List.getElem?_eq_getElem (by omega)
    rw [hj1] at h3
    exact Or.inl ⟨j, hj, by rw [hj1, h3]⟩
  · have hk : k < ws.length := (List.getElem?_eq_some_iff.mp h2).1
    have hz := hal k (List.mem_range.mpr hk)
    rw [h1] at hz
    exact Or.inr ⟨by simpa using hz, h2⟩
theorem zmap_at {isC : List Nat} {ws wc : va_W} (hC : isC.map (fun i => ws[i]?) = wc.map some) (j : Nat) (q : Nat × va_E) (h : wc[j]? = some q) : ∃ i, isC[j]? = some i ∧ ws[i]? = some q := by
  have h1 : (isC.map (fun i => ws[i]?))[j]? = some (some q) := by rw [hC, List.getElem?_map, h]; rfl
  rw [List.getElem?_map] at h1
  cases hi : isC[j]? with
  | none => rw [hi] at h1; cases h1
  | some i => rw [hi] at h1; exact ⟨i, rfl, Option.some.inj h1⟩
theorem zmap_of {isC : List Nat} {ws wc : va_W} (hC : isC.map (fun i => ws[i]?) = wc.map some) (j i : Nat) (h : isC[j]? = some i) : ∃ q, wc[j]? = some q ∧ ws[i]? = some q := by
  have h1 : (wc.map some)[j]? = some (ws[i]?) := by rw [← hC, List.getElem?_map, h]; rfl
  rw [List.getElem?_map] at h1
  cases hq : wc[j]? with
  | none => rw [hq] at h1; cases h1
  | some q => rw [hq] at h1; exact ⟨q, rfl, (Option.some.inj h1).symm⟩
theorem zjoin {A0 : Nat → Prop} {D : va_G} {ws wc w1 : va_W} {isC : List Nat} {pl : List (Option Nat)} {H H1 : Heap} (hP : va_P D vwCl ws H) (hD : va_D A0 ws) (hC : isC.map (fun i => ws[i]?) = wc.map some) (hpl : zok isC pl ws.length = true) (hf : w1.map (fun q => q.1) = wc.map (fun q => q.1))
    (hk : ∀ q : Nat, q < H.size → ¬ va_A wc H.size q → H1[q]? = H[q]?) (hP1 : va_P D vwCl w1 H1) : va_P D vwCl (zmer ws pl w1) H1 ∧ va_D A0 (zmer ws pl w1) := by
  have hlC : isC.length = wc.length := by have := congrArg List.length hC; simpa using this
  have hlw : w1.length = wc.length := by have := congrArg List.length hf; simpa using this
  have hl : isC.length = w1.length := by omega
  have key : ∀ (k : Nat) (q : Nat × va_E), (zmer ws pl w1)[k]? = some q → ∃ q0, ws[k]? = some q0 ∧ q0.1 = q.1 := by
    intro k q hq
    rcases zput_get isC w1 ws pl hl hpl k q hq with ⟨j, h1, h2⟩ | ⟨h1, h2⟩
    · obtain ⟨q0, g1, g2⟩ := zmap_of hC j k h1
      refine ⟨q0, g2, ?_⟩
      have e1 : (w1.map (fun q => q.1))[j]? = some q.1 := by rw [List.getElem?_map, h2]; rfl
      have e2 : (wc.map (fun q => q.1))[j]? = some q0.1 := by rw [List.getElem?_map, g1]; rfl
      rw [hf, e2] at e1
      exact Option.some.inj e1
    · exact ⟨q, h2, rfl⟩
  refine ⟨fun k q hq => ?_, fun i j x y hi hj hxy => ?_, fun k q hq => ?_⟩
  · rcases zput_get isC w1 ws pl hl hpl k q hq with ⟨j, h1, h2⟩ | ⟨h1, h2⟩
    · exact hP1 j q h2
    · have hlt := (hP k q h2).lt
      refine (hP k q h2).kept (hk q.1 hlt fun ha => ?_)
      rcases ha with ⟨j, e, ha⟩ | ha
      · obtain ⟨i, g1, g2⟩ := zmap_at hC j (q.1, e) ha
        have hij := hD.1 k i q (q.1, e) h2 g2 rfl
        subst hij
        exact h1 (List.mem_of_getElem? g1)
      · omega
  · obtain ⟨x0, h1, h2⟩ := key i x hi
    obtain ⟨y0, h3, h4⟩ := key j y hj
    exact hD.1 i j x0 y0 h1 h3 (h2.trans (hxy.trans h4.symm))
  · obtain ⟨q0, h1, h2⟩ := key k q hq
    rw [← h2]
    exact hD.2 k q0 h1
theorem zsub {A : Nat → Prop} {D : va_G} {ws wc : va_W} {isC : List Nat} {H : Heap} (hP : va_P D vwCl ws H) (hC : isC.map (fun i => ws[i]?) = wc.map some) : va_P D vwCl wc H := fun j q hq => by
  obtain ⟨i, -, g⟩ := zmap_at hC j q hq
  exact hP i q g
theorem zpre {s : State} {H : Heap} {locs : List Loc} {A : Nat → Prop} {D : va_G} {tys : List (ClassId × FieldType)} {ga : Nat → Nat} {ws wc : va_W} {isC : List Nat} {av : List Value} (hP : va_P D vwCl ws H) (hD : va_D A ws) (hS : va_S A s.heap H locs) (hA : ∀ q, s.heap.size ≤ q → A q) (hK : va_K D vwCl tys s) (hG : zG ga A s s.heap) (hC : isC.map (fun i => ws[i]?) = wc.map some) (hn : va_nd isC = true) :
    ∀ U : State, U.heap = H → s.WarmedH U.vm → zPc D tys ga av wc H.size av.toArray U := fun U hU hW =>
  ⟨rfl, by rw [hU], by rw [hU]; exact zsub (A := A) hP hC, va_K.moved hW.alike hK, (hD.sub isC hn hC).weaken (fun _ _ _ _ => trivial), by rw [hU]; exact ((hG.kept hS.2.1).narrow (va_free hD hS hA isC hC)).warm hW⟩
section ZC
variable {p : Program} {l : Launch} {e : Env} {R : Room} {s : State} {m : MethodId} {args : Array Value} {below : List Frame} {meth : Method} {c : Code} {H : Heap} {locs : List Loc} {cells slots : Nat} {Q : State → Prop}
variable {pc : Nat} {ls : Array Slot} {rest st0 : List Value} {a : Array Value} {A : Nat → Prop} {D : va_G} {tys : List (ClassId × FieldType)} {ga : Nat → Nat} {ws wc w1 w2 : va_W} {isC : List Nat} {pl : List (Option Nat)} {nw : Nat} {ro : Option Value}
theorem zcall (hr : va_Run p l e R s m args below meth c H locs cells slots 0 0 (F0 m pc ls st0) rest (zQ D w1 ro (va_A wc H.size) a) (va_A wc H.size)) (hP : va_P D vwCl ws H) (hD : va_D A ws) (hS : va_S A s.heap H locs) (hA : ∀ q, s.heap.size ≤ q → A q)
    (hC : isC.map (fun i => ws[i]?) = wc.map some) (hn : va_nd isC = true) (hf : w1.map (fun q => q.1) = wc.map (fun q => q.1)) (hcs : cells + 0 ≤ R.cells ∧ slots + 0 ≤ R.slots) (hnw : ws.length = nw) (hpl : zok isC pl nw = true) (hw : zmer ws pl w1 = w2) {st1 : List Value} (hst : ro.toList ++ rest = st1)
    (kk : ∀ (H1 : Heap) (locs1 : List Loc), va_P D vwCl w2 H1 → va_D A w2 → va_S A s.heap H1 locs1 → W p l e R s m args below meth c H1 locs1 cells slots Q (F0 m (pc + 3) ls st1)) : W p l e R s m args below meth c H locs cells slots Q (F0 m pc ls st0) := by
  subst hw
  subst hst
  subst hnw
  have hfree := va_free hD hS hA isC hC
  intro T hT X
  obtain ⟨v, st₀, t, T', L, h0, X', hL, e1, e2, ⟨hv, hp, hz, hk⟩, st⟩ := hr T hT X
  cases hv
  rw [h0] at hz hk
  rw [← e1] at hp
  have hk' : ∀ q : Nat, q < H.size → ¬ va_A wc H.size q → T'.heap[q]? = H[q]? := fun q h1 h2 => by rw [e1]; exact hk q h1 h2
  obtain ⟨j1, j2⟩ := zjoin hP hD hC hpl hf hk' hp
  obtain ⟨t2, a1, b1⟩ := kk T'.heap (locs ++ L) j1 j2
    ⟨Nat.le_trans hS.1 (by rw [e1]; exact hz), fun q h1 h2 => by rw [hk' q (Nat.lt_of_lt_of_le h1 hS.1) (fun z => h2 (hfree q z))]; exact hS.2.1 q h1 h2, fun q hq => by
      rcases List.mem_append.mp hq with h | h
      · exact hS.2.2 q h
      · exact hfree _ (hL q h)⟩ T' rfl X'
  exact ⟨t2, st t2 a1, b1⟩
variable {y : MethodName} {bytes cc : ByteArray} {maxL nL n index : Nat} {ret : Option FieldType} {wsc wsc' : List Cond} {rm : Room} {Ts : List Cond} {own C : String} {b : Addr} {As : List Value}
/-- a virtual call -/
theorem zcallV (S : CallFix p m c cc nL s args Ts own) (hM : zM l y wsc rm D tys ga (.ref b :: As) wc w1 ro) (hG' : GoodIn Ts (wsV own index C y wsc)) (hw' : wsc = Cond.code y bytes maxL ret :: wsc') (hd : y.cls = C ∧ y.cls ≠ "java/lang/invoke/MethodHandle" ∧ y.cls ≠ "java/lang/invoke/VarHandle" ∧ (parseMethodDescriptor y.desc).map (fun d => d.parameters.length) = some n)
    (hrm : rm.cells = 0 ∧ rm.slots = 0) (hR : rm.frames + 1 ≤ R.frames ∧ 8 + (maxL + 11) + rm.locals ≤ R.locals) (q0 ci : Nat) {fs : List Value} {T9 : u_T} {N9 : Nat} (he : ws[q0]? = some (b, .inr (ci, fs))) (hc : vwCl[ci]? = some (C, T9, N9))
    (hnA : As.length = n) (hsize : ls.size = nL) (hstack : st0 = As.reverse ++ .ref b :: rest) (hW : (rest.map fun v => v.category).sum ≤ 8) (hdg : decode cc pc = .ok (.invokevirtual index, 3))
    (hP : va_P D vwCl ws H) (hD : va_D A ws) (hS : va_S A s.heap H locs) (hA : ∀ q, s.heap.size ≤ q → A q) (hK : va_K D vwCl tys s) (hG : zG ga A s s.heap)
    (hC : isC.map (fun i => ws[i]?) = wc.map some) (hn : va_nd isC = true) (hf : w1.map (fun q => q.1) = wc.map (fun q => q.1)) (hcs : cells + 0 ≤ R.cells ∧ slots + 0 ≤ R.slots) (hnw : ws.length = nw) (hpl : zok isC pl nw = true) (hw : zmer ws pl w1 = w2) {st1 : List Value} (hst : ro.toList ++ rest = st1)
    (kk : ∀ (H1 : Heap) (locs1 : List Loc), va_P D vwCl w2 H1 → va_D A w2 → va_S A s.heap H1 locs1 → W p l e R s m args below meth c H1 locs1 cells slots Q (F0 m (pc + 3) ls st1)) : W p l e R s m args below meth c H locs cells slots Q (F0 m pc ls st0) := by
  have hr := va_runV (l := l) (e := e) (R := R) (below := below) (meth := meth) (locs := locs) (cells := cells) (slots := slots) (rest := rest) (g := F0 m pc ls st0) S (hM H.size) (cwV n S.2.2.2.2 hG' hw' hrm.1 hrm.2 hd hR) ⟨zPc_blind, va_recv hK hP hc he, zpre hP hD hS hA hK hG hC hn⟩ rfl hnA hsize hstack (lv_room (ls := ls) (pc := pc) (m := m) (rest := st0) hW) hdg hcs
  exact zcall hr hP hD hS hA hC hn hf hcs hnw hpl hw hst kk
/-- a virtual call on an object beside the world -/
theorem zcallVS (S : CallFix p m c cc nL s args Ts own) (hM : zM l y wsc rm D tys ga (.ref b :: As) wc w1 ro) (hG' : GoodIn Ts (wsV own index C y wsc)) (hw' : wsc = Cond.code y bytes maxL ret :: wsc') (hd : y.cls = C ∧ y.cls ≠ "java/lang/invoke/MethodHandle" ∧ y.cls ≠ "java/lang/invoke/VarHandle" ∧ (parseMethodDescriptor y.desc).map (fun d => d.parameters.length) = some n)
    (hrm : rm.cells = 0 ∧ rm.slots = 0) (hR : rm.frames + 1 ≤ R.frames ∧ 8 + (maxL + 11) + rm.locals ≤ R.locals) (hrecv : ∃ cell : Cell, H[b]? = some cell ∧ cell.vm.isStatics = false ∧ s.vm.findClass C = some cell.cls)
    (hnA : As.length = n) (hsize : ls.size = nL) (hstack : st0 = As.reverse ++ .ref b :: rest) (hW : (rest.map fun v => v.category).sum ≤ 8) (hdg : decode cc pc = .ok (.invokevirtual index, 3))
    (hP : va_P D vwCl ws H) (hD : va_D A ws) (hS : va_S A s.heap H locs) (hA : ∀ q, s.heap.size ≤ q → A q) (hK : va_K D vwCl tys s) (hG : zG ga A s s.heap)
    (hC : isC.map (fun i => ws[i]?) = wc.map some) (hn : va_nd isC = true) (hf : w1.map (fun q => q.1) = wc.map (fun q => q.1)) (hcs : cells + 0 ≤ R.cells ∧ slots + 0 ≤ R.slots) (hnw : ws.length = nw) (hpl : zok isC pl nw = true) (hw : zmer ws pl w1 = w2) {st1 : List Value} (hst : ro.toList ++ rest = st1)
    (kk : ∀ (H1 : Heap) (locs1 : List Loc), va_P D vwCl w2 H1 → va_D A w2 → va_S A s.heap H1 locs1 → W p l e R s m args below meth c H1 locs1 cells slots Q (F0 m (pc + 3) ls st1)) : W p l e R s m args below meth c H locs cells slots Q (F0 m pc ls st0) := by
  have hr := va_runV (l := l) (e := e) (R := R) (below := below) (meth := meth) (locs := locs) (cells := cells) (slots := slots) (rest := rest) (g := F0 m pc ls st0) S (hM H.size) (cwV n S.2.2.2.2 hG' hw' hrm.1 hrm.2 hd hR) ⟨zPc_blind, hrecv, zpre hP hD hS hA hK hG hC hn⟩ rfl hnA hsize hstack (lv_room (ls := ls) (pc := pc) (m := m) (rest := st0) hW) hdg hcs
  exact zcall hr hP hD hS hA hC hn hf hcs hnw hpl hw hst kk
/-- a static call, by a word of the tables -/
theorem zcallS (S : CallFix p m c cc nL s args Ts own) (hM : zM l y wsc rm D tys ga As wc w1 ro) (hG' : GoodIn Ts (va_wsS own index y wsc)) (hw' : wsc = Cond.code y bytes maxL ret :: wsc') (hd : y.cls ≠ "java/lang/invoke/MethodHandle" ∧ y.cls ≠ "java/lang/invoke/VarHandle" ∧ (parseMethodDescriptor y.desc).map (fun d => d.parameters.length) = some n)
    (hrm : rm.cells = 0 ∧ rm.slots = 0) (hR : rm.frames + 1 ≤ R.frames ∧ 8 + (maxL + 11) + rm.locals ≤ R.locals)
    (hnA : As.length = n) (hsize : ls.size = nL) (hstack : st0 = As.reverse ++ rest) (hW : (rest.map fun v => v.category).sum ≤ 8) (hdg : decode cc pc = .ok (.invokestatic index, 3))
    (hP : va_P D vwCl ws H) (hD : va_D A ws) (hS : va_S A s.heap H locs) (hA : ∀ q, s.heap.size ≤ q → A q) (hK : va_K D vwCl tys s) (hG : zG ga A s s.heap)
    (hC : isC.map (fun i => ws[i]?) = wc.map some) (hn : va_nd isC = true) (hf : w1.map (fun q => q.1) = wc.map (fun q => q.1)) (hcs : cells + 0 ≤ R.cells ∧ slots + 0 ≤ R.slots) (hnw : ws.length = nw) (hpl : zok isC pl nw = true) (hw : zmer ws pl w1 = w2) {st1 : List Value} (hst : ro.toList ++ rest = st1)
    (kk : ∀ (H1 : Heap) (locs1 : List Loc), va_P D vwCl w2 H1 → va_D A w2 → va_S A s.heap H1 locs1 → W p l e R s m args below meth c H1 locs1 cells slots Q (F0 m (pc + 3) ls st1)) : W p l e R s m args below meth c H locs cells slots Q (F0 m pc ls st0) := by
  have hr := va_runS (l := l) (e := e) (R := R) (below := below) (meth := meth) (locs := locs) (cells := cells) (slots := slots) (rest := rest) (g := F0 m pc ls st0) S (hM H.size) (va_cwS n S.2.2.2.2 hG' hw' hrm.1 hrm.2 hd hR) ⟨zPc_blind, zpre hP hD hS hA hK hG hC hn⟩ rfl hnA hsize hstack (lv_room (ls := ls) (pc := pc) (m := m) (rest := st0) hW) hdg hcs
  exact zcall hr hP hD hS hA hC hn hf hcs hnw hpl hw hst kk
/-- a static call of a nest mate's own -/
theorem zcallSN {host : String} (S : CallFix p m c cc nL s args Ts own) (hM : zM l y wsc rm D tys ga As wc w1 ro) (hG' : GoodIn Ts wsc) (hw' : wsc = Cond.code y bytes maxL ret :: wsc') (hd : y.cls ≠ "java/lang/invoke/MethodHandle" ∧ y.cls ≠ "java/lang/invoke/VarHandle" ∧ (parseMethodDescriptor y.desc).map (fun d => d.parameters.length) = some n)
    (hl : va_Nw (.methodLinkNest own index y host) s) (hini : Cond.initialized y.cls ∈ Ts) (hstt : Cond.static y ∈ Ts)
    (hrm : rm.cells = 0 ∧ rm.slots = 0) (hR : rm.frames + 1 ≤ R.frames ∧ 8 + (maxL + 11) + rm.locals ≤ R.locals)
    (hnA : As.length = n) (hsize : ls.size = nL) (hstack : st0 = As.reverse ++ rest) (hW : (rest.map fun v => v.category).sum ≤ 8) (hdg : decode cc pc = .ok (.invokestatic index, 3))
    (hP : va_P D vwCl ws H) (hD : va_D A ws) (hS : va_S A s.heap H locs) (hA : ∀ q, s.heap.size ≤ q → A q) (hK : va_K D vwCl tys s) (hG : zG ga A s s.heap)
    (hC : isC.map (fun i => ws[i]?) = wc.map some) (hn : va_nd isC = true) (hf : w1.map (fun q => q.1) = wc.map (fun q => q.1)) (hcs : cells + 0 ≤ R.cells ∧ slots + 0 ≤ R.slots) (hnw : ws.length = nw) (hpl : zok isC pl nw = true) (hw : zmer ws pl w1 = w2) {st1 : List Value} (hst : ro.toList ++ rest = st1)
    (kk : ∀ (H1 : Heap) (locs1 : List Loc), va_P D vwCl w2 H1 → va_D A w2 → va_S A s.heap H1 locs1 → W p l e R s m args below meth c H1 locs1 cells slots Q (F0 m (pc + 3) ls st1)) : W p l e R s m args below meth c H locs cells slots Q (F0 m pc ls st0) := by
  have hr := va_runSN (l := l) (e := e) (R := R) (below := below) (meth := meth) (locs := locs) (cells := cells) (slots := slots) (rest := rest) (g := F0 m pc ls st0) S (hM H.size) ⟨va_cnB n S.2.2.2.2 hG' hw' hrm.1 hrm.2 hl (S.2.2.2.2 _ hini) hd hR, S.2.2.2.2 _ hstt, trivial⟩ ⟨zPc_blind, zpre hP hD hS hA hK hG hC hn⟩ rfl hnA hsize hstack (lv_room (ls := ls) (pc := pc) (m := m) (rest := st0) hW) hdg hcs
  exact zcall hr hP hD hS hA hC hn hf hcs hnw hpl hw hst kk
end ZC
/-- an array's row of arrays is read -/
theorem zaald {p : Program} {l : Launch} {e : Env} {R : Room} {s : State} {m : MethodId} {args : Array Value} {below : List Frame} {meth : Method} {c : Code} {H : Heap} {locs : List Loc} {cells slots : Nat} {Q : State → Prop} {cc : ByteArray} {pc : Nat} {ls : Array Slot} {rest : List Value} {D : va_G} {cl : List vw_C} {a : Nat} {tys : List (ClassId × FieldType)} {ws : va_W} (hexec : p.tables.exec = Jvm.exec) (hb : c.code = cc) (hK : va_K D cl tys s) (hP : va_P D cl ws H) (q0 t0 : Nat) {cA : ClassId} {ty : FieldType} {n : Nat} {f : Nat → Option Nat} (ha : ws[q0]? = some (a, .inl (cA, n, .inr (.inr (.inr (.inr f)))))) (ht : tys[t0]? = some (cA, .array ty)) {i : Int32} (hin : vp_in i n) (hdg : decode cc pc = .ok (.aaload, 1))
    (kk : W p l e R s m args below meth c H locs cells slots Q (F0 m (pc + 1) ls (va_rf (f i.toNatClampNeg) :: rest))) : W p l e R s m args below meth c H locs cells slots Q (F0 m pc ls (.int i :: .ref a :: rest)) := by
  have hlt : i.toNatClampNeg < n := Nat.not_le.mp fun q => hin (Or.inr q)
  exact W.aald (v := va_rf (f i.toNatClampNeg)) (ty := .array ty) hexec hb (hP q0 _ ha) ((hK.2 t0 _ ht).1 n (fun j => va_rf (f j))) rfl (fun q => by cases q) (by show ¬ (i < 0 ∨ (arrV _ _ _).slots.size ≤ _); rw [arrV_size]; exact hin) (by show (arrV _ _ _).slots[_]? = _; rw [arrV_read _ _ hlt]) rfl rfl hdg kk
/-- what a method's body has at hand: Q stands for its end -/
theorem zenter {l : Launch} {y : MethodName} {own : String} {wsc wsc' : List Cond} {rm : Room} {D : va_G} {tys : List (ClassId × FieldType)} {ga : Nat → Nat} {av : List Value} {wc w1 : va_W} {ro : Option Value} {cc : ByteArray} {maxL : Nat} {ret : Option FieldType} (hy : plainName y.cls = true) (hw : wsc = .code y cc maxL ret :: wsc') (hown0 : y.cls = own) (hlen : (lg_sl av).length ≤ maxL)
    (body : ∀ (p : Program) (e : Env) (s : State) (m : MethodId) (args : Array Value) (below : List Frame) (meth : Method) (c : Code) (A : Nat → Prop) (ls : Array Slot), CallFix p m c cc maxL s args wsc own → meth.sig.returnType = ret → meth.locks = false → (∀ q, s.heap.size ≤ q → A q) → va_K D vwCl tys s → zG ga A s s.heap → lv_has ls maxL (lv_args 0 av) → va_P D vwCl wc s.heap → va_D A wc → va_S A s.heap s.heap [] →
      W p l e rm s m args below meth c s.heap [] 0 0 (MQ below (zQ D w1 ro A) args s 0 0 A) (F0 m 0 ls [])) : zM l y wsc rm D tys ga av wc w1 ro := by
  intro sz
  refine Met.ofW (cc := cc) (maxL := maxL) (ret := ret) hy hw ?_
  intro p e s m args below meth c s₁ B hml hv
  obtain ⟨rfl, hsz, hP, hK, hD0, hG⟩ := hv
  subst hsz
  have h := body p e s m av.toArray below meth c (va_A wc s.heap.size) _ ⟨B.exec, B.bytes, hml, hown0 ▸ findClass_of_methodNamed B.named, atoms_spec (ws := wsc) B.pre⟩ B.returns B.notSynchronized (fun q h => Or.inr h) hK hG (lv_entry av hlen) hP hD0.self va_S.rf
  rw [lg_entry_eq]
  exact h
section ZR
variable {p : Program} {l : Launch} {e : Env} {R : Room} {s : State} {m : MethodId} {args : Array Value} {below : List Frame} {meth : Method} {c : Code} {H : Heap} {locs : List Loc} {pc : Nat} {ls : Array Slot} {A : Nat → Prop} {D : va_G} {w1 : va_W} {cc : ByteArray}
theorem zretI {v : Int32} (hexec : p.tables.exec = Jvm.exec) (hb : c.code = cc) (hr : meth.sig.returnType = some .int) (hlocks : meth.locks = false) (hP : va_P D vwCl w1 H) (hS : va_S A s.heap H locs) (hdg : decode cc pc = .ok (.ireturn, 1)) : W p l e R s m args below meth c H locs 0 0 (MQ below (zQ D w1 (some (.int v)) A) args s 0 0 A) (F0 m pc ls [.int v]) :=
  W.iret hexec hb hr (fun t ht hW => ⟨rfl, by rw [ht]; exact hP, hS.F ht⟩) hS.2.2 hdg
theorem zretZ {v : Int32} {ty : FieldType} (hexec : p.tables.exec = Jvm.exec) (hb : c.code = cc) (hr : meth.sig.returnType = some ty) (hlocks : meth.locks = false) (hv : narrow ty (.int v) = .int v) (hP : va_P D vwCl w1 H) (hS : va_S A s.heap H locs) (hdg : decode cc pc = .ok (.ireturn, 1)) : W p l e R s m args below meth c H locs 0 0 (MQ below (zQ D w1 (some (.int v)) A) args s 0 0 A) (F0 m pc ls [.int v]) :=
  W.zret hexec hb hr hv (fun t ht hW => ⟨rfl, by rw [ht]; exact hP, hS.F ht⟩) hS.2.2 hdg
theorem zretL {v : Int64} (hexec : p.tables.exec = Jvm.exec) (hb : c.code = cc) (hr : meth.sig.returnType = some .long) (hlocks : meth.locks = false) (hP : va_P D vwCl w1 H) (hS : va_S A s.heap H locs) (hdg : decode cc pc = .ok (.lreturn, 1)) : W p l e R s m args below meth c H locs 0 0 (MQ below (zQ D w1 (some (.long v)) A) args s 0 0 A) (F0 m pc ls [.long v]) :=
  W.lret hexec hb hr (fun t ht hW => ⟨rfl, by rw [ht]; exact hP, hS.F ht⟩) hS.2.2 hdg
theorem zretV (hexec : p.tables.exec = Jvm.exec) (hb : c.code = cc) (hr : meth.sig.returnType = none) (hlocks : meth.locks = false) (hP : va_P D vwCl w1 H) (hS : va_S A s.heap H locs) (hdg : decode cc pc = .ok (.return_, 1)) : W p l e R s m args below meth c H locs 0 0 (MQ below (zQ D w1 none A) args s 0 0 A) (F0 m pc ls []) :=
  W.vret hexec hb hr (fun t ht hW => ⟨rfl, by rw [ht]; exact hP, hS.F ht⟩) hS.2.2 hdg
theorem zretA {n : String} {b : Nat} (hexec : p.tables.exec = Jvm.exec) (hb : c.code = cc) (hr : meth.sig.returnType = some (.object n)) (hlocks : meth.locks = false) (hP : va_P D vwCl w1 H) (hS : va_S A s.heap H locs) (hdg : decode cc pc = .ok (.areturn, 1)) : W p l e R s m args below meth c H locs 0 0 (MQ below (zQ D w1 (some (.ref b)) A) args s 0 0 A) (F0 m pc ls [.ref b]) :=
  W.aret hexec hb hr (Or.inl ⟨n, rfl⟩) (Or.inr ⟨b, rfl⟩) (fun t ht hW => ⟨rfl, by rw [ht]; exact hP, hS.F ht⟩) hS.2.2 hdg
end ZR
theorem zb01 {r : Int32} (h : r = 0 ∨ r = 1) : narrow .boolean (.int r) = .int r := by rcases h with rfl | rfl <;> rfl
theorem zp {α : Type} {c : Prop} {d : Decidable c} {a b : Option α} {o : α} (h : (@ite _ c d a b) = some o) (hc : c) : a = some o := by rwa [if_pos hc] at h
theorem zn {α : Type} {c : Prop} {d : Decidable c} {a b : Option α} {o : α} (h : (@ite _ c d a b) = some o) (hc : ¬ c) : b = some o := by rwa [if_neg hc] at h
/-- a test ahead of what would throw: it held, since there is an answer -/
theorem zck {α : Type} {c : Prop} {d : Decidable c} {b : Option α} {o : α} (h : (@ite _ c d none b) = some o) : ¬ c ∧ b = some o := by
  by_cases hc : c
  · rw [if_pos hc] at h; cases h
  · exact ⟨hc, by rwa [if_neg hc] at h⟩
theorem zck2 {α : Type} {c : Prop} {d : Decidable c} {b : Option α} {o : α} (h : (@ite _ c d b none) = some o) : c ∧ b = some o := by
  by_cases hc : c
  · exact ⟨hc, by rwa [if_pos hc] at h⟩
  · rw [if_neg hc] at h; cases h
theorem zbd {α β : Type} {x : Option α} {k : α → Option β} {o : β} (h : x.bind k = some o) : ∃ v, x = some v ∧ k v = some o := by
  cases x with
  | none => cases h
  | some v => exact ⟨v, rfl, h⟩
/-- how often a loop may go round, in the pure pictures -/
def zF : Nat := 65536
theorem zgood : wsL_law.all goodWord = true := by decide +kernel
theorem zgoodIn {x : Cond} : GoodIn (x :: wsL_law) wsL_law := fun w h => ⟨List.mem_cons_of_mem _ h, good_of_word (List.all_eq_true.mp zgood w h)⟩
theorem zgI {x cd : Cond} (h0 : cd ∈ wsL_law) : GoodIn (x :: wsL_law) (cd :: wsL_law) := fun w h => by
  rcases List.mem_cons.mp h with rfl | h
  · exact zgoodIn _ h0
  · exact zgoodIn _ h
theorem zgV {x cd : Cond} {own C : String} {idx : Nat} {y : MethodName} (h1 : Cond.methodLink own idx y ∈ wsL_law) (h2 : Cond.instanceMethod y ∈ wsL_law) (h3 : Cond.selects C y y ∈ wsL_law) (h4 : Cond.initialized C ∈ wsL_law) (h0 : cd ∈ wsL_law) : GoodIn (x :: wsL_law) (wsV own idx C y (cd :: wsL_law)) := fun w h => by
  unfold wsV at h
  rcases List.mem_append.mp h with h | h
  · simp only [List.mem_cons, List.not_mem_nil, or_false] at h
    rcases h with rfl | rfl | rfl | rfl
    · exact zgoodIn _ h1
    · exact zgoodIn _ h2
    · exact zgoodIn _ h3
    · exact zgoodIn _ h4
  · exact zgI h0 _ h
theorem zgS {x cd : Cond} {own : String} {idx : Nat} {y : MethodName} (h1 : Cond.methodLink own idx y ∈ wsL_law) (h2 : Cond.static y ∈ wsL_law) (h4 : Cond.initialized y.cls ∈ wsL_law) (h0 : cd ∈ wsL_law) : GoodIn (x :: wsL_law) (va_wsS own idx y (cd :: wsL_law)) := fun w h => by
  unfold va_wsS at h
  rcases List.mem_append.mp h with h | h
  · simp only [List.mem_cons, List.not_mem_nil, or_false] at h
    rcases h with rfl | rfl | rfl
    · exact zgoodIn _ h1
    · exact zgoodIn _ h2
    · exact zgoodIn _ h4
  · exact zgI h0 _ h

section ZE
variable {l : Launch} {y : MethodName} {own : String} {wsc wsc' : List Cond} {rm : Room} {D : va_G} {tys : List (ClassId × FieldType)} {ga : Nat → Nat} {av : List Value} {wc w1 : va_W} {cc : ByteArray} {maxL : Nat}
theorem zenterI {v : Int32} (hy : plainName y.cls = true) (hw : wsc = .code y cc maxL (some .int) :: wsc') (hown0 : y.cls = own) (hlen : (lg_sl av).length ≤ maxL)
    (body : ∀ (p : Program) (e : Env) (s : State) (m : MethodId) (args : Array Value) (below : List Frame) (meth : Method) (c : Code) (A : Nat → Prop) (ls : Array Slot) (Q : State → Prop), CallFix p m c cc maxL s args wsc own → (∀ q, s.heap.size ≤ q → A q) → va_K D vwCl tys s → zG ga A s s.heap → lv_has ls maxL (lv_args 0 av) → va_P D vwCl wc s.heap → va_D A wc → va_S A s.heap s.heap [] →
      (∀ (H : Heap) (locs : List Loc) (pc : Nat) (ls : Array Slot), va_P D vwCl w1 H → va_S A s.heap H locs → decode cc pc = .ok (.ireturn, 1) → W p l e rm s m args below meth c H locs 0 0 Q (F0 m pc ls [.int v])) → W p l e rm s m args below meth c s.heap [] 0 0 Q (F0 m 0 ls [])) : zM l y wsc rm D tys ga av wc w1 (some (.int v)) :=
  zenter hy hw hown0 hlen fun p e s m args below meth c A ls S hr hlk hA hK hG hl hP hD hS => body p e s m args below meth c A ls _ S hA hK hG hl hP hD hS fun H locs pc ls hP hS hd => zretI S.1 S.2.1 hr hlk hP hS hd
theorem zenterN {v : Int32} {ty : FieldType} (hy : plainName y.cls = true) (hw : wsc = .code y cc maxL (some ty) :: wsc') (hown0 : y.cls = own) (hlen : (lg_sl av).length ≤ maxL)
    (body : ∀ (p : Program) (e : Env) (s : State) (m : MethodId) (args : Array Value) (below : List Frame) (meth : Method) (c : Code) (A : Nat → Prop) (ls : Array Slot) (Q : State → Prop), CallFix p m c cc maxL s args wsc own → (∀ q, s.heap.size ≤ q → A q) → va_K D vwCl tys s → zG ga A s s.heap → lv_has ls maxL (lv_args 0 av) → va_P D vwCl wc s.heap → va_D A wc → va_S A s.heap s.heap [] →
      (narrow ty (.int v) = .int v → ∀ (H : Heap) (locs : List Loc) (pc : Nat) (ls : Array Slot), va_P D vwCl w1 H → va_S A s.heap H locs → decode cc pc = .ok (.ireturn, 1) → W p l e rm s m args below meth c H locs 0 0 Q (F0 m pc ls [.int v])) → W p l e rm s m args below meth c s.heap [] 0 0 Q (F0 m 0 ls [])) : zM l y wsc rm D tys ga av wc w1 (some (.int v)) :=
  zenter hy hw hown0 hlen fun p e s m args below meth c A ls S hr hlk hA hK hG hl hP hD hS => body p e s m args below meth c A ls _ S hA hK hG hl hP hD hS fun hz H locs pc ls hP hS hd => zretZ S.1 S.2.1 hr hlk hz hP hS hd
theorem zenterL {v : Int64} (hy : plainName y.cls = true) (hw : wsc = .code y cc maxL (some .long) :: wsc') (hown0 : y.cls = own) (hlen : (lg_sl av).length ≤ maxL)
    (body : ∀ (p : Program) (e : Env) (s : State) (m : MethodId) (args : Array Value) (below : List Frame) (meth : Method) (c : Code) (A : Nat → Prop) (ls : Array Slot) (Q : State → Prop), CallFix p m c cc maxL s args wsc own → (∀ q, s.heap.size ≤ q → A q) → va_K D vwCl tys s → zG ga A s s.heap → lv_has ls maxL (lv_args 0 av) → va_P D vwCl wc s.heap → va_D A wc → va_S A s.heap s.heap [] →
      (∀ (H : Heap) (locs : List Loc) (pc : Nat) (ls : Array Slot), va_P D vwCl w1 H → va_S A s.heap H locs → decode cc pc = .ok (.lreturn, 1) → W p l e rm s m args below meth c H locs 0 0 Q (F0 m pc ls [.long v])) → W p l e rm s m args below meth c s.heap [] 0 0 Q (F0 m 0 ls [])) : zM l y wsc rm D tys ga av wc w1 (some (.long v)) :=
  zenter hy hw hown0 hlen fun p e s m args below meth c A ls S hr hlk hA hK hG hl hP hD hS => body p e s m args below meth c A ls _ S hA hK hG hl hP hD hS fun H locs pc ls hP hS hd => zretL S.1 S.2.1 hr hlk hP hS hd
theorem zenterV (hy : plainName y.cls = true) (hw : wsc = .code y cc maxL none :: wsc') (hown0 : y.cls = own) (hlen : (lg_sl av).length ≤ maxL)
    (body : ∀ (p : Program) (e : Env) (s : State) (m : MethodId) (args : Array Value) (below : List Frame) (meth : Method) (c : Code) (A : Nat → Prop) (ls : Array Slot) (Q : State → Prop), CallFix p m c cc maxL s args wsc own → (∀ q, s.heap.size ≤ q → A q) → va_K D vwCl tys s → zG ga A s s.heap → lv_has ls maxL (lv_args 0 av) → va_P D vwCl wc s.heap → va_D A wc → va_S A s.heap s.heap [] →
      (∀ (H : Heap) (locs : List Loc) (pc : Nat) (ls : Array Slot), va_P D vwCl w1 H → va_S A s.heap H locs → decode cc pc = .ok (.return_, 1) → W p l e rm s m args below meth c H locs 0 0 Q (F0 m pc ls [])) → W p l e rm s m args below meth c s.heap [] 0 0 Q (F0 m 0 ls [])) : zM l y wsc rm D tys ga av wc w1 none :=
  zenter hy hw hown0 hlen fun p e s m args below meth c A ls S hr hlk hA hK hG hl hP hD hS => body p e s m args below meth c A ls _ S hA hK hG hl hP hD hS fun H locs pc ls hP hS hd => zretV S.1 S.2.1 hr hlk hP hS hd
theorem zenterA {n : String} {b : Nat} (hy : plainName y.cls = true) (hw : wsc = .code y cc maxL (some (.object n)) :: wsc') (hown0 : y.cls = own) (hlen : (lg_sl av).length ≤ maxL)
    (body : ∀ (p : Program) (e : Env) (s : State) (m : MethodId) (args : Array Value) (below : List Frame) (meth : Method) (c : Code) (A : Nat → Prop) (ls : Array Slot) (Q : State → Prop), CallFix p m c cc maxL s args wsc own → (∀ q, s.heap.size ≤ q → A q) → va_K D vwCl tys s → zG ga A s s.heap → lv_has ls maxL (lv_args 0 av) → va_P D vwCl wc s.heap → va_D A wc → va_S A s.heap s.heap [] →
      (∀ (H : Heap) (locs : List Loc) (pc : Nat) (ls : Array Slot), va_P D vwCl w1 H → va_S A s.heap H locs → decode cc pc = .ok (.areturn, 1) → W p l e rm s m args below meth c H locs 0 0 Q (F0 m pc ls [.ref b])) → W p l e rm s m args below meth c s.heap [] 0 0 Q (F0 m 0 ls [])) : zM l y wsc rm D tys ga av wc w1 (some (.ref b)) :=
  zenter hy hw hown0 hlen fun p e s m args below meth c A ls S hr hlk hA hK hG hl hP hD hS => body p e s m args below meth c A ls _ S hA hK hG hl hP hD hS fun H locs pc ls hP hS hd => zretA S.1 S.2.1 hr hlk hP hS hd
end ZE
theorem zinc {x a b : Int32} (h : a = b) : x + a = x + b := by rw [h]
theorem zin {i : Int32} {n : Nat} (h : (decide (i < 0) || decide (n ≤ i.toNatClampNeg)) = false) : vp_in i n := by
  simp only [Bool.or_eq_false_iff, decide_eq_false_iff_not] at h
  exact fun q => q.elim h.1 h.2
def zg2 (a b : Option Nat) : Nat → Option Nat := fun i => if i = 0 then a else b
section ZI
variable {p : Program} {l : Launch} {e : Env} {R : Room} {s : State} {m : MethodId} {args : Array Value} {below : List Frame} {meth : Method} {c : Code} {H : Heap} {locs : List Loc} {cells slots : Nat} {Q : State → Prop}
variable {cc : ByteArray} {pc nL : Nat} {ls : Array Slot} {rest : List Value} {D : va_G} {a : Nat} {tys : List (ClassId × FieldType)} {ws w2 : va_W} {H0 : Heap} {A : Nat → Prop} {x0 : Cond} {own : String}
theorem zget {C : String} {T : u_T} {N ci index : Nat} (S : CallFix p m c cc nL s args (x0 :: wsL_law) own) (hK : va_K D vwCl tys s) (hP : va_P D vwCl ws H) (q0 : Nat) {fs : List Value} (he : ws[q0]? = some (a, .inr (ci, fs))) (hc : vwCl[ci]? = some (C, T, N)) (k : Nat) (hk : k < N) (hin : ∀ w ∈ u_ws C T N, w ∈ wsL_law) (hlink : Cond.fieldLink own index (T k).1 (T k).2.1 (T k).2.2.1 ∈ wsL_law) {v : Value} (hv : fs[k]? = some v) (hdg : decode cc pc = .ok (.getfield index, 3))
    (kk : W p l e R s m args below meth c H locs cells slots Q (F0 m (pc + 3) ls (v :: rest))) : W p l e R s m args below meth c H locs cells slots Q (F0 m pc ls (.ref a :: rest)) :=
  va_get S.1 S.2.1 S.2.2.2.2 (fun w h => List.mem_cons_of_mem _ (hin w h)) S.2.2.2.1 hK hP q0 he hc k hk (S.2.2.2.2 _ (List.mem_cons_of_mem _ hlink)) (fun _ h => h) hv hdg kk
theorem zputf {C : String} {T : u_T} {N ci index : Nat} {ty : FieldType} {v : Value} (S : CallFix p m c cc nL s args (x0 :: wsL_law) own) (hK : va_K D vwCl tys s) (hP : va_P D vwCl ws H) (hD : va_D A ws) (hS : va_S A H0 H locs) (q0 : Nat) {fs : List Value} (he : ws[q0]? = some (a, .inr (ci, fs))) (hc : vwCl[ci]? = some (C, T, N)) (k : Nat) (hk : k < N) (hin : ∀ w ∈ u_ws C T N, w ∈ wsL_law) (ty0 : Nat → FieldType) (hty : ∀ k, k < N → parseFieldDescriptor (T k).2.2.1 = some (ty0 k)) (hnm : ∀ a, a < N → ∀ b, b < N → a ≠ b → (T a).2.1 ≠ (T b).2.1) (hlink : Cond.fieldLink own index (T k).1 (T k).2.1 (T k).2.2.1 ∈ wsL_law) (hfin : (T k).2.2.2 = false) (hd : parseFieldDescriptor (T k).2.2.1 = some ty) (hn : narrow ty v = v) (hfit : fits ty v = true) (hl : k < fs.length) (hdg : decode cc pc = .ok (.putfield index, 3)) (hw : ws.set q0 (a, .inr (ci, fs.set k v)) = w2)
    (kk : ∀ (H1 : Heap) (locs1 : List Loc), va_P D vwCl w2 H1 → va_D A w2 → va_S A H0 H1 locs1 → W p l e R s m args below meth c H1 locs1 cells slots Q (F0 m (pc + 3) ls rest)) : W p l e R s m args below meth c H locs cells slots Q (F0 m pc ls (v :: .ref a :: rest)) := by
  subst hw
  exact va_put S.1 S.2.1 S.2.2.2.2 (fun w h => List.mem_cons_of_mem _ (hin w h)) ty0 hty hnm S.2.2.2.1 hK hP hD hS q0 he hc k hk (S.2.2.2.2 _ (List.mem_cons_of_mem _ hlink)) (fun _ h => h) hfin hd hn hfit hl hdg kk
theorem ziald (hexec : p.tables.exec = Jvm.exec) (hb : c.code = cc) (hK : va_K D vwCl tys s) (hP : va_P D vwCl ws H) (q0 t0 : Nat) {cA : ClassId} {n j : Nat} {f : Nat → Int32} (ha : ws[q0]? = some (a, .inl (cA, n, .inl f))) (ht : tys[t0]? = some (cA, .int)) {i : Int32} (hin : vp_in i n) (hj : i.toNatClampNeg = j) (hdg : decode cc pc = .ok (.iaload, 1))
    (kk : W p l e R s m args below meth c H locs cells slots Q (F0 m (pc + 1) ls (.int (f j) :: rest))) : W p l e R s m args below meth c H locs cells slots Q (F0 m pc ls (.int i :: .ref a :: rest)) := by
  subst hj; exact va_iald hexec hb hK hP q0 t0 ha ht hin hdg kk
theorem zzald (hexec : p.tables.exec = Jvm.exec) (hb : c.code = cc) (hK : va_K D vwCl tys s) (hP : va_P D vwCl ws H) (q0 t0 : Nat) {cA : ClassId} {n j : Nat} {f : Nat → Int32} (ha : ws[q0]? = some (a, .inl (cA, n, .inl f))) (ht : tys[t0]? = some (cA, .boolean)) {i : Int32} (hin : vp_in i n) (hj : i.toNatClampNeg = j) (hdg : decode cc pc = .ok (.baload, 1))
    (kk : W p l e R s m args below meth c H locs cells slots Q (F0 m (pc + 1) ls (.int (f j) :: rest))) : W p l e R s m args below meth c H locs cells slots Q (F0 m pc ls (.int i :: .ref a :: rest)) := by
  subst hj; exact va_zald hexec hb hK hP q0 t0 ha ht hin hdg kk
theorem zlald (hexec : p.tables.exec = Jvm.exec) (hb : c.code = cc) (hK : va_K D vwCl tys s) (hP : va_P D vwCl ws H) (q0 t0 : Nat) {cA : ClassId} {n j : Nat} {f : Nat → Int64} (ha : ws[q0]? = some (a, .inl (cA, n, .inr (.inl f)))) (ht : tys[t0]? = some (cA, .long)) {i : Int32} (hin : vp_in i n) (hj : i.toNatClampNeg = j) (hdg : decode cc pc = .ok (.laload, 1))
    (kk : W p l e R s m args below meth c H locs cells slots Q (F0 m (pc + 1) ls (.long (f j) :: rest))) : W p l e R s m args below meth c H locs cells slots Q (F0 m pc ls (.int i :: .ref a :: rest)) := by
  subst hj; exact va_lald hexec hb hK hP q0 t0 ha ht hin hdg kk
theorem ziast (hexec : p.tables.exec = Jvm.exec) (hb : c.code = cc) (hK : va_K D vwCl tys s) (hP : va_P D vwCl ws H) (hD : va_D A ws) (hS : va_S A H0 H locs) (q0 t0 : Nat) {cA : ClassId} {n j : Nat} {f : Nat → Int32} (ha : ws[q0]? = some (a, .inl (cA, n, .inl f))) (ht : tys[t0]? = some (cA, .int)) {i x : Int32} (hin : vp_in i n) (hj : i.toNatClampNeg = j) (hdg : decode cc pc = .ok (.iastore, 1)) (hw : ws.set q0 (a, .inl (cA, n, .inl (upd f j x))) = w2)
    (kk : ∀ (H1 : Heap) (locs1 : List Loc), va_P D vwCl w2 H1 → va_D A w2 → va_S A H0 H1 locs1 → W p l e R s m args below meth c H1 locs1 cells slots Q (F0 m (pc + 1) ls rest)) : W p l e R s m args below meth c H locs cells slots Q (F0 m pc ls (.int x :: .int i :: .ref a :: rest)) := by
  subst hj; subst hw; exact va_iast hexec hb hK hP hD hS q0 t0 ha ht hin hdg kk
theorem zzast (hexec : p.tables.exec = Jvm.exec) (hb : c.code = cc) (hK : va_K D vwCl tys s) (hP : va_P D vwCl ws H) (hD : va_D A ws) (hS : va_S A H0 H locs) (q0 t0 : Nat) {cA : ClassId} {n j : Nat} {f : Nat → Int32} (ha : ws[q0]? = some (a, .inl (cA, n, .inl f))) (ht : tys[t0]? = some (cA, .boolean)) {i x y : Int32} (hy : vp_nar .boolean x = y) (hin : vp_in i n) (hj : i.toNatClampNeg = j) (hdg : decode cc pc = .ok (.bastore, 1)) (hw : ws.set q0 (a, .inl (cA, n, .inl (upd f j y))) = w2)
    (kk : ∀ (H1 : Heap) (locs1 : List Loc), va_P D vwCl w2 H1 → va_D A w2 → va_S A H0 H1 locs1 → W p l e R s m args below meth c H1 locs1 cells slots Q (F0 m (pc + 1) ls rest)) : W p l e R s m args below meth c H locs cells slots Q (F0 m pc ls (.int x :: .int i :: .ref a :: rest)) := by
  subst hj; subst hw; subst hy; exact va_zast hexec hb hK hP hD hS q0 t0 ha ht hin hdg kk
theorem zlast (hexec : p.tables.exec = Jvm.exec) (hb : c.code = cc) (hK : va_K D vwCl tys s) (hP : va_P D vwCl ws H) (hD : va_D A ws) (hS : va_S A H0 H locs) (q0 t0 : Nat) {cA : ClassId} {n j : Nat} {f : Nat → Int64} (ha : ws[q0]? = some (a, .inl (cA, n, .inr (.inl f)))) (ht : tys[t0]? = some (cA, .long)) {i : Int32} {x : Int64} (hin : vp_in i n) (hj : i.toNatClampNeg = j) (hdg : decode cc pc = .ok (.lastore, 1)) (hw : ws.set q0 (a, .inl (cA, n, .inr (.inl (vp_updL f j x)))) = w2)
    (kk : ∀ (H1 : Heap) (locs1 : List Loc), va_P D vwCl w2 H1 → va_D A w2 → va_S A H0 H1 locs1 → W p l e R s m args below meth c H1 locs1 cells slots Q (F0 m (pc + 1) ls rest)) : W p l e R s m args below meth c H locs cells slots Q (F0 m pc ls (.long x :: .int i :: .ref a :: rest)) := by
  subst hj; subst hw; exact va_last hexec hb hK hP hD hS q0 t0 ha ht hin hdg kk
theorem zaald0 (hexec : p.tables.exec = Jvm.exec) (hb : c.code = cc) (hK : va_K D vwCl tys s) (hP : va_P D vwCl ws H) (q0 t0 : Nat) {cA : ClassId} {ty : FieldType} {n x : Nat} {f : Nat → Option Nat} (ha : ws[q0]? = some (a, .inl (cA, n, .inr (.inr (.inr (.inr f)))))) (ht : tys[t0]? = some (cA, .array ty)) {i : Int32} (hin : vp_in i n) (hx : f i.toNatClampNeg = some x) (hdg : decode cc pc = .ok (.aaload, 1))
    (kk : W p l e R s m args below meth c H locs cells slots Q (F0 m (pc + 1) ls (.ref x :: rest))) : W p l e R s m args below meth c H locs cells slots Q (F0 m pc ls (.int i :: .ref a :: rest)) := by
  refine zaald hexec hb hK hP q0 t0 ha ht hin hdg ?_
  rw [hx]; exact kk
theorem zti (hexec : p.tables.exec = Jvm.exec) (hb : c.code = cc) {t N j : Nat} {f : Nat → Int32} (hT : va_T .int t N (fun j => .int (f j)) A s s.heap) (hS : va_S A s.heap H locs) {i : Int32} (hin : vp_in i N) (hj : i.toNatClampNeg = j) (hdg : decode cc pc = .ok (.iaload, 1))
    (kk : W p l e R s m args below meth c H locs cells slots Q (F0 m (pc + 1) ls (.int (f j) :: rest))) : W p l e R s m args below meth c H locs cells slots Q (F0 m pc ls (.int i :: .ref t :: rest)) :=
  va_ti hexec hb hT hS hin (v := .int (f j)) (by rw [hj]) hdg kk
/-- the first n entries of a row are copied -/
theorem zcopy (S : CallFix p m c cc nL s args (x0 :: wsL_law) own) (hsize : ls.size = nL) {index : Nat} (hlink : Cond.methodLink own index arraycopyName ∈ wsL_law) (hnat : Cond.native arraycopyName ∈ wsL_law) (hstat : Cond.static arraycopyName ∈ wsL_law) (hini : Cond.initialized "java/lang/System" ∈ wsL_law)
    (hK : va_K D vwCl tys s) (hP : va_P D vwCl ws H) (hD : va_D A ws) (hS : va_S A H0 H locs) (q0 q1 t0 t1 : Nat) {a0 : Nat} {c0 c1 : ClassId} {n0 n1 : Nat} {f g : Nat → Int32} (ha0 : ws[q0]? = some (a0, .inl (c0, n0, .inl f))) (ha1 : ws[q1]? = some (a, .inl (c1, n1, .inl g))) (ht0 : tys[t0]? = some (c0, .int)) (ht1 : tys[t1]? = some (c1, .int))
    {n : Int32} (h : ¬ (n < 0 ∨ n0 < n.toNatClampNeg ∨ n1 < n.toNatClampNeg)) (hframes : 1 ≤ R.frames) (hlocals : (rest.map fun v => v.category).sum + (nativeFrameWords "java/lang/System" "arraycopy" 5 + 11) ≤ R.locals) (hdg : decode cc pc = .ok (.invokestatic index, 3)) (hw : ws.set q1 (a, .inl (c1, n1, .inl (va_cpy f g 0 0 n.toNatClampNeg))) = w2)
    (kk : ∀ (H1 : Heap) (locs1 : List Loc), va_P D vwCl w2 H1 → va_D A w2 → va_S A H0 H1 locs1 → W p l e R s m args below meth c H1 locs1 cells slots Q (F0 m (pc + 3) ls rest)) : W p l e R s m args below meth c H locs cells slots Q (F0 m pc ls (.int n :: .int 0 :: .ref a :: .int 0 :: .ref a0 :: rest)) := by
  subst hw
  have z0 : (0 : Int32).toNatClampNeg = 0 := by decide
  have hh : ∀ w, w ∈ wsL_law → w.before args s = true := fun w h => S.2.2.2.2 w (List.mem_cons_of_mem _ h)
  refine va_copyi S.1 S.2.1 (S.2.2.1.trans hsize.symm) S.2.2.2.1 (hh _ hlink) (hh _ hnat) (hh _ hstat) (hh _ hini) hK hP hD hS q0 q1 t0 t1 ha0 ha1 ht0 ht1 rfl (by decide) (by decide) (fun q => h (Or.inl q)) (by rw [z0]; omega) (by rw [z0]; omega) (fun _ _ => rfl) hframes hlocals hdg ?_
  rw [z0]
  exact kk
end ZI
