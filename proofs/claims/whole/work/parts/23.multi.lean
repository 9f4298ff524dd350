theorem vr_outer (c : ClassId) (N h0 : Nat) : ∀ i : Nat, Jvm.Free.Multi.outerC c N h0 i = arrV c N (fun j => va_rf (if j < i then some (h0 + 1 + j) else none))
  | 0 => by
    show ({ cls := c, slots := Array.replicate N .null, vm := .none } : Cell) = _
    rw [arrV_new]
    refine congrArg (arrV c N) (funext fun j => ?_)
    simp [va_rf]
  | i + 1 => by
    show (Jvm.Free.Multi.outerC c N h0 i).setSlot i (.ref (h0 + 1 + i)) = _
    rw [vr_outer c N h0 i, arrV_store]
    refine congrArg (arrV c N) (funext fun j => ?_)
    by_cases e : j = i
    · subst e
      simp [updV, va_rf]
    · by_cases h : j < i
      · simp [updV, e, h, Nat.lt_succ_of_lt h]
      · simp [updV, e, h, show ¬ j < i + 1 by omega]
theorem zarr2 (c : ClassId) (f g : Nat → Option Nat) (h0 : f 0 = g 0) (h1 : f 1 = g 1) : arrV c 2 (fun j => va_rf (f j)) = arrV c 2 (fun j => va_rf (g j)) := by
  unfold arrV
  congr 1
  refine congrArg Array.ofFn (funext fun j => ?_)
  obtain ⟨j, hj⟩ := j
  rcases (show j = 0 ∨ j = 1 by omega) with rfl | rfl
  · show va_rf (f 0) = va_rf (g 0)
    rw [h0]
  · show va_rf (f 1) = va_rf (g 1)
    rw [h1]
/-- new int[2][241] -/
theorem zmna {p : Program} {l : Launch} {e : Env} {R : Room} {s : State} {m : MethodId} {args : Array Value} {below : List Frame} {meth : Method} {c : Code} {H : Heap} {locs : List Loc} {cells slots k2 n2 : Nat} {Q : State → Prop} {cc : ByteArray} {pc nL index : Nat} {ls : Array Slot} {rest : List Value} {D : va_G} {cI cJ cZ cA : ClassId} {ws : va_W} {A : Nat → Prop} {x0 : Cond} {own : String} (S : CallFix p m c cc nL s args (x0 :: wsL_law) own)
    (hclink : (Cond.classLink own index "[[I").before args s = true) (hover : zAO s) (harr : (Cond.arrayClass .int).before args s = true) (hK : va_K D vwCl (zTy cI cJ cZ cA) s) (hP : va_P D vwCl ws H) (hD : va_D A ws) (hS : va_S A s.heap H locs) (hA : ∀ q, s.heap.size ≤ q → A q) (hcells : cells + 3 ≤ R.cells) (hslots : slots + 484 ≤ R.slots) (hdg : decode cc pc = .ok (.multianewarray index 2, 4)) (hk2 : cells + 3 ≤ k2) (hn2 : slots + 484 ≤ n2)
    (kk : ∀ (q a b : Nat) (H1 : Heap), va_P D vwCl (ws ++ [(q, .inl (cA, 2, .inr (.inr (.inr (.inr (zg2 (some a) (some b))))))), (a, .inl (cI, 241, .inl (fun _ => 0))), (b, .inl (cI, 241, .inl (fun _ => 0)))]) H1 → va_D A (ws ++ [(q, .inl (cA, 2, .inr (.inr (.inr (.inr (zg2 (some a) (some b))))))), (a, .inl (cI, 241, .inl (fun _ => 0))), (b, .inl (cI, 241, .inl (fun _ => 0)))]) → va_S A s.heap H1 locs → W p l e R s m args below meth c H1 locs k2 n2 Q (F0 m (pc + 4) ls (.ref q :: rest))) : W p l e R s m args below meth c H locs cells slots Q (F0 m pc ls (.int 241 :: .int 2 :: rest)) := by
  have eT : "[" ++ (FieldType.array .int).toString = "[[I" := by decide +kernel
  have eI : (FieldType.array .int).toString = "[" ++ (FieldType.int).toString := by decide +kernel
  have z2 : (2 : Int32).toNatClampNeg = 2 := by decide
  have z241 : (241 : Int32).toNatClampNeg = 241 := by decide
  intro T hT X
  obtain ⟨vm₁, cAA, comp, hW, fA, fC, hO, hI, X', step⟩ := Jvm.Stand.multianewarray2F X S.1 (ty := .int) S.2.2.2.1 (by rw [eT]; exact hclink) hover harr (g := F0 m pc ls (.int 241 :: .int 2 :: rest)) rfl (by rw [S.2.1]; exact hdg) rfl (by decide) (by decide) (by decide) (by decide) (by decide) rfl rfl (by rw [z2]; omega) (by rw [z2, z241]; omega)
  rw [z2, z241] at X' step
  have ecA : cAA = cA := Option.some.inj (fA.symm.trans (hK.2 3 _ rfl).2)
  have ecI : comp = cI := Option.some.inj (fC.symm.trans (by rw [eI]; exact (hK.2 0 _ rfl).2))
  subst ecA
  subst ecI
  obtain ⟨f1, f2, -, -⟩ := Jvm.Free.Multi.fill_facts (T.setVm vm₁) cAA comp 2 241 (defaultValue .int) 2
  have f3 : ∀ x : Nat, x < (T.setVm vm₁).heap.size → (Jvm.Free.Multi.fill (T.setVm vm₁) cAA comp 2 241 (defaultValue .int) 2).heap[x]? = (T.setVm vm₁).heap[x]? := fun x hx => Jvm.Free.Multi.fill_old (T.setVm vm₁) cAA comp 2 241 (defaultValue .int) hx 2
  have f4 := Jvm.Free.Multi.fill_inner (T.setVm vm₁) cAA comp 2 241 (defaultValue .int) 2 0 (by omega)
  have f5 := Jvm.Free.Multi.fill_inner (T.setVm vm₁) cAA comp 2 241 (defaultValue .int) 2 1 (by omega)
  generalize Jvm.Free.Multi.fill (T.setVm vm₁) cAA comp 2 241 (defaultValue .int) 2 = F at X' step f1 f2 f3 f4 f5
  have hTh : (T.setVm vm₁).heap = H := hT
  have hT0 : T.heap = H := hT
  rw [hTh] at f1 f2 f3 f4 f5
  rw [hT0] at step
  have hin : Jvm.Free.Multi.innerC comp 241 (defaultValue .int) = vp_cell comp (241, .inl (fun _ => (0 : Int32))) := by
    rw [vp_cell_i]
    show ({ cls := comp, slots := Array.replicate 241 (.int 0), vm := .none } : Cell) = _
    rw [arrV_new]
  have hout : Jvm.Free.Multi.outerC cAA 2 H.size 2 = vp_cell cAA (2, .inr (.inr (.inr (.inr (zg2 (some (H.size + 1 + 0)) (some (H.size + 1 + 1))))))) := by
    rw [vr_outer, vp_cell_q]
    exact zarr2 cAA _ _ rfl rfl
  rw [hin] at f4 f5
  rw [hout] at f2
  have hk : ∀ (k : Nat) (x : Nat × va_E), ws[k]? = some x → F.heap[x.1]? = H[x.1]? := fun k x hx => f3 x.1 (hP k x hx).lt
  have hP1 : va_P D vwCl (ws ++ [(H.size, .inl (cAA, 2, .inr (.inr (.inr (.inr (zg2 (some (H.size + 1 + 0)) (some (H.size + 1 + 1)))))))), (H.size + 1 + 0, .inl (comp, 241, .inl (fun _ => 0))), (H.size + 1 + 1, .inl (comp, 241, .inl (fun _ => 0)))]) F.heap := (hP.kept hk).app (fun k x hx => by
    match k, hx with
    | 0, hx => cases hx; exact f2
    | 1, hx => cases hx; exact f4
    | 2, hx => cases hx; exact f5
    | k + 3, hx => simp at hx)
  have hlt : ∀ (k : Nat) (x : Nat × va_E), ws[k]? = some x → x.1 < H.size := fun k x hx => (hP k x hx).lt
  have hsA : H.size ≤ H.size := Nat.le_refl _
  have hD1 : va_D A (ws ++ [(H.size, .inl (cAA, 2, .inr (.inr (.inr (.inr (zg2 (some (H.size + 1 + 0)) (some (H.size + 1 + 1)))))))), (H.size + 1 + 0, .inl (comp, 241, .inl (fun _ => 0))), (H.size + 1 + 1, .inl (comp, 241, .inl (fun _ => 0)))]) := by
    refine hD.app ⟨fun i j x y hi hj hxy => ?_, fun k x hx => ?_⟩ (fun i j x y hi hj => ?_)
    · match i, j, hi, hj with
      | 0, 0, _, _ => rfl
      | 1, 1, _, _ => rfl
      | 2, 2, _, _ => rfl
      | 0, 1, hi, hj => cases hi; cases hj; simp at hxy
      | 0, 2, hi, hj => cases hi; cases hj; simp at hxy; omega
      | 1, 0, hi, hj => cases hi; cases hj; simp at hxy
      | 1, 2, hi, hj => cases hi; cases hj; simp at hxy
      | 2, 0, hi, hj => cases hi; cases hj; simp at hxy; omega
      | 2, 1, hi, hj => cases hi; cases hj; simp at hxy
      | i + 3, _, hi, _ => simp at hi
      | _, j + 3, _, hj => simp at hj
    · match k, hx with
      | 0, hx => cases hx; exact hA _ hS.1
      | 1, hx => cases hx; exact hA _ (by have := hS.1; show _ ≤ H.size + 1 + 0; omega)
      | 2, hx => cases hx; exact hA _ (by have := hS.1; show _ ≤ H.size + 1 + 1; omega)
      | k + 3, hx => simp at hx
    · have h1 := hlt i x hi
      match j, hj with
      | 0, hj => cases hj; show x.1 ≠ H.size; omega
      | 1, hj => cases hj; show x.1 ≠ H.size + 1 + 0; omega
      | 2, hj => cases hj; show x.1 ≠ H.size + 1 + 1; omega
      | j + 3, hj => simp at hj
  have hS1 : va_S A s.heap F.heap locs := ⟨by rw [f1]; have := hS.1; omega, fun q h1 h2 => (f3 q (Nat.lt_of_lt_of_le h1 hS.1)).trans (hS.2.1 q h1 h2), hS.2.2⟩
  have X2 := stand_widen X' (k := k2) (n := n2) (by omega) (by omega)
  obtain ⟨t, a1, b1⟩ := kk H.size (H.size + 1 + 0) (H.size + 1 + 1) F.heap hP1 hD1 hS1 F rfl X2
  exact ⟨t, step t a1, b1⟩
