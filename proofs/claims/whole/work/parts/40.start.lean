/-! THE CLAIM OUT OF ONE WALK OF THE LAW'S BODY. Your part is whole_start (and what it stands on); all else here is the same for every law, but numbers. -/
def R_law : String := "SpokenClockLaw"
def lw_P (b : Addr) (xs : List Int32) (args : Array Value) (s : State) : Prop := args = #[.ref b] ∧ s.IntsAt b xs ∧ xs.length ≤ 3072 ∧ (Jvm.Cond.and given_1 narrow_1).before args s = true
def lw_Q (_ : Array Value) (s : State) (o : Outcome) (t : State) : Prop := o = .returned (some (.int 1)) ∧ Framed s o t [] 600000 7302250
def lw_Z (below : List Frame) (a : Array Value) (s : State) : State → Prop := fun t => ∃ o, t.status = .running ∧ Ended t below o ∧ lw_Q a s o t
/-- the law's own end, with 1 on the stack, nothing written that was there before, its room as the claim has it -/
theorem lw_ret {p : Program} {l : Launch} {e : Env} {s : State} {m : MethodId} {below : List Frame} {meth : Method} {c : Code} {b : Nat} (hx : p.tables.exec = Jvm.exec) (hb : c.code = code) (hr : meth.sig.returnType = ret) (hlocks : meth.locks = false) {pc : Nat} {H : Heap} {ls : Array Slot} (hdg : decode code pc = .ok (.ireturn, 1)) : W p l e room_1 s m #[Value.ref b] below meth c H [] 600000 7302250 (lw_Z below #[Value.ref b] s) (F0 m pc ls [.int 1]) := by
  intro T hT X
  obtain ⟨fs, hret, hrun, hended, hW, hframe⟩ := X.leave (v := some (.int 1)) (hlocks := hlocks) (fun h => by rw [hr] at h; cases h)
  have hmeth' : T.vm.method? m = some meth := X.method'
  refine ⟨T.setFrames fs, ?_, .returned (some (.int 1)), hrun, hended, rfl, ⟨_, rfl⟩, hW, hframe⟩
  jvm_step X.here [X.here.top, hx, hb, hdg, hmeth', hr, ret, narrow_b1]
  (try refine ⟨rfl, ?_⟩); (try refine ⟨rfl, ?_⟩)
  first | (intro acts; rw [hret _ acts rfl rfl rfl]) | rw [hret _ _ rfl rfl rfl]
  exact Steps.refl _
/-- what holds at the law's entry: the machine, the code, the tables' words (any of lw_tbl by 'hts w (by decide +kernel)'), the script of L ints xs at the cell b, what the Statement gives of the start (any of its parts by flat_of_before) -/
def lw_At (p : Program) (s : State) (m : MethodId) (meth : Method) (c : Code) (b L : Nat) (xs : Nat → Int32) : Prop :=
  p.tables.exec = Jvm.exec ∧ c.code = code ∧ meth.sig.returnType = ret ∧ c.maxLocals = 4 ∧ s.vm.findClass R_law = some m.cls ∧ (∀ w ∈ lw_tbl, w.before #[Value.ref b] s = true) ∧ va_X b L xs s s.heap ∧ b < s.heap.size ∧ meth.locks = false ∧ (Jvm.Cond.and given_1 narrow_1).before #[Value.ref b] s = true

def zI0 : Nat → Int32 := fun k => match k with
  | 0 => 0
  | 1 => 0
  | 2 => 0
  | 3 => 0
  | 4 => 0
  | 5 => 0
  | 6 => 0
  | 7 => 0
  | 8 => 0
  | 9 => 0
  | 10 => 0
  | 11 => 0
  | 12 => 0
  | 13 => 0
  | 14 => 0
  | 15 => 0
  | 16 => 0
  | 17 => 0
  | 18 => 1
  | 19 => 1
  | 20 => 0
  | 21 => 1
  | 22 => 0
  | 23 => 0
  | 24 => 0
  | 25 => 1
  | 26 => 0
  | 27 => 0
  | 28 => 0
  | 29 => 0
  | 30 => 0
  | 31 => 0
  | 32 => 0
  | 33 => 0
  | 34 => 0
  | 35 => 0
  | 36 => 0
  | 37 => 0
  | 38 => 0
  | 39 => 0
  | 40 => 0
  | 41 => 1
  | 42 => 0
  | 43 => 0
  | 44 => 0
  | 45 => 0
  | 46 => 0
  | 47 => 0
  | _ => 0
def zA0 : Nat → Nat → Int32 := fun k => match k with
  | 0 => (fun _ => 0)
  | 1 => (fun _ => 0)
  | 2 => (fun _ => 0)
  | 3 => (fun _ => 0)
  | 4 => (fun _ => 0)
  | 5 => (upd (upd (upd (fun _ => 0) 0 1) 1 0) 2 60)
  | 6 => (fun _ => 0)
  | 7 => (fun _ => 0)
  | 8 => (fun _ => 0)
  | 9 => (fun _ => 0)
  | 10 => (fun _ => 0)
  | 11 => (fun _ => 0)
  | 12 => (upd (upd (upd (fun _ => 0) 0 1) 1 0) 2 60)
  | 13 => (fun _ => 0)
  | 14 => (fun _ => 0)
  | 15 => (fun _ => 0)
  | 16 => (fun _ => 0)
  | 17 => (fun _ => 0)
  | 18 => (fun _ => 0)
  | 19 => (fun _ => 0)
  | 20 => (fun _ => 0)
  | 21 => (fun _ => 0)
  | 22 => (fun _ => 0)
  | 23 => (fun _ => 0)
  | 24 => (fun _ => 0)
  | 25 => (fun _ => 0)
  | 26 => (upd (fun _ => 0) 0 0)
  | 27 => (upd (fun _ => 0) 0 1)
  | 28 => (upd (fun _ => 0) 0 0)
  | 29 => (fun _ => 0)
  | 30 => (fun _ => 0)
  | 31 => (fun _ => 0)
  | 32 => (fun _ => 0)
  | 33 => (fun _ => 0)
  | 34 => (upd (upd (upd (fun _ => 0) 0 1) 1 0) 2 60)
  | 35 => (fun _ => 0)
  | 36 => (fun _ => 0)
  | 37 => (fun _ => 0)
  | 38 => (fun _ => 0)
  | 39 => (fun _ => 0)
  | 40 => (fun _ => 0)
  | 41 => (upd (upd (upd (fun _ => 0) 0 1) 1 0) 2 60)
  | 42 => (fun _ => 0)
  | 43 => (fun _ => 0)
  | 44 => (fun _ => 0)
  | 45 => (upd (upd (fun _ => 0) 0 1) 2 60)
  | 46 => (fun _ => 0)
  | 47 => (fun _ => 0)
  | 48 => (fun _ => 0)
  | 49 => (fun _ => 0)
  | 50 => (upd (fun _ => 0) 0 1)
  | 51 => (fun _ => 0)
  | 52 => (fun _ => 0)
  | 53 => (fun _ => 0)
  | 54 => (fun _ => 0)
  | 55 => (fun _ => 0)
  | 56 => (fun _ => 0)
  | 57 => (fun _ => 0)
  | 58 => (fun _ => 0)
  | 59 => (fun _ => 0)
  | 60 => (fun _ => 0)
  | 61 => (fun _ => 0)
  | 62 => (fun _ => 0)
  | _ => fun _ => 0
def zJ0 : Nat → Nat → Int64 := fun k => match k with
  | 0 => (fun _ => 0)
  | 1 => (fun _ => 0)
  | 2 => (fun _ => 0)
  | 3 => (fun _ => 0)
  | _ => fun _ => 0
theorem zvk_congr {A : Nat → Prop} {U : State} {H : Heap} {k1 v1 k2 v2 : Nat → Nat} (hk : ∀ i, i < 7 → k1 i = k2 i) (hv : ∀ i, i < 7 → v1 i = v2 i) (h : vk_S 7 zLen zByt k1 v1 A U H) : vk_S 7 zLen zByt k2 v2 A U H :=
  ⟨fun i hi => by rw [← hk i hi, ← hv i hi]; exact h.1 i hi, fun i j hi hj e => h.2 i j hi hj (by rw [hk i hi, hk j hj]; exact e)⟩
def zgaf (t0 t1 t2 : Nat) (k v : Nat → Nat) : Nat → Nat := fun n => if n = 0 then t0 else if n = 1 then t1 else if n = 2 then t2 else if n < 10 then k (n - 3) else v (n - 10)
theorem zgaf_k {t0 t1 t2 : Nat} {k v : Nat → Nat} (i : Nat) (h : i < 7) : k i = zgaf t0 t1 t2 k v (3 + i) := by
  unfold zgaf
  rw [if_neg (by omega), if_neg (by omega), if_neg (by omega), if_pos (by omega)]
  congr 1; omega
theorem zgaf_v {t0 t1 t2 : Nat} {k v : Nat → Nat} (i : Nat) (h : i < 7) : v i = zgaf t0 t1 t2 k v (10 + i) := by
  unfold zgaf
  rw [if_neg (by omega), if_neg (by omega), if_neg (by omega), if_neg (by omega)]
  congr 1; omega
set_option maxHeartbeats 4000000 in
set_option maxRecDepth 100000 in
theorem zstart {s : State} {b : Addr} (htb : ∀ w ∈ lw_tbl, w.before #[Value.ref b] s = true) (hgv : (Jvm.Cond.and given_1 narrow_1).before #[Value.ref b] s = true) : ∃ (D : va_G) (cI cJ cZ cA : ClassId) (ga : Nat → Nat), va_K D vwCl (zTy cI cJ cZ cA) s ∧ zG ga (fun q => s.heap.size ≤ q) s s.heap := by
  have hs := flat_of_before _ hgv
  have hA : ∀ a : Nat, a < s.heap.size → ¬ (fun q => s.heap.size ≤ q) a := fun a h h2 => by have h3 : s.heap.size ≤ a := h2; omega
  obtain ⟨c0, i0, h0⟩ := u_known (C := RX0) (T := TX0) (N := 1) (n := 1) htb zuw_0 (htb _ (zlaw_in _ zw_66))
  obtain ⟨c1, i1, h1⟩ := u_known (C := RX1) (T := TX1) (N := 5) (n := 5) htb zuw_1 (htb _ (zlaw_in _ zw_37))
  obtain ⟨c2, i2, h2⟩ := u_known (C := RX2) (T := TX2) (N := 3) (n := 3) htb zuw_2 (htb _ (zlaw_in _ zw_18))
  obtain ⟨c3, i3, h3⟩ := u_known (C := RX3) (T := TX3) (N := 7) (n := 7) htb zuw_3 (htb _ (zlaw_in _ zw_48))
  obtain ⟨c4, i4, h4⟩ := u_known (C := RX4) (T := TX4) (N := 5) (n := 5) htb zuw_4 (htb _ (zlaw_in _ zw_44))
  obtain ⟨c5, i5, h5⟩ := u_known (C := RX5) (T := TX5) (N := 5) (n := 5) htb zuw_5 (htb _ (zlaw_in _ zw_14))
  obtain ⟨c6, i6, h6⟩ := u_known (C := RX6) (T := TX6) (N := 7) (n := 7) htb zuw_6 (htb _ (zlaw_in _ zw_40))
  obtain ⟨c7, i7, h7⟩ := u_known (C := RX7) (T := TX7) (N := 4) (n := 4) htb zuw_7 (htb _ (zlaw_in _ zw_31))
  obtain ⟨c8, i8, h8⟩ := u_known (C := RX8) (T := TX8) (N := 8) (n := 8) htb zuw_8 (htb _ (zlaw_in _ zw_34))
  obtain ⟨c9, i9, h9⟩ := u_known (C := RX9) (T := TX9) (N := 7) (n := 7) htb zuw_9 (htb _ (zlaw_in _ zw_22))
  obtain ⟨c10, i10, h10⟩ := u_known (C := RX10) (T := TX10) (N := 14) (n := 14) htb zuw_10 (htb _ (zlaw_in _ zw_1))
  obtain ⟨c11, i11, h11⟩ := u_known (C := RX11) (T := TX11) (N := 31) (n := 31) htb zuw_11 (htb _ (zlaw_in _ zw_4))
  obtain ⟨cI, kcI, mcI, fcI, gcI, qcI⟩ := Cond.arrayClass_spec (htb _ (zlaw_in _ zw_28))
  obtain ⟨cJ, kcJ, mcJ, fcJ, gcJ, qcJ⟩ := Cond.arrayClass_spec (htb _ (zlaw_in _ zw_107))
  obtain ⟨cZ, kcZ, mcZ, fcZ, gcZ, qcZ⟩ := Cond.arrayClass_spec (htb _ (zlaw_in _ zw_26))
  have hao : zAO s := htb _ (zt_1 _ (List.mem_of_getElem? (i := 192) rfl))
  obtain ⟨mA, cA, kA, fA0, -, gA, qA, fA⟩ := zAO.spec hao
  have hK : va_K (fun c => [c0, c1, c2, c3, c4, c5, c6, c7, c8, c9, c10, c11].getD c 0, fun c => [i0, i1, i2, i3, i4, i5, i6, i7, i8, i9, i10, i11].getD c (fun _ => 0)) vwCl (zTy cI cJ cZ cA) s := by
    refine ⟨fun c q hc => ?_, fun k q hk => ?_⟩
    · match c, hc with
      | 0, hc => cases hc; exact h0
      | 1, hc => cases hc; exact h1
      | 2, hc => cases hc; exact h2
      | 3, hc => cases hc; exact h3
      | 4, hc => cases hc; exact h4
      | 5, hc => cases hc; exact h5
      | 6, hc => cases hc; exact h6
      | 7, hc => cases hc; exact h7
      | 8, hc => cases hc; exact h8
      | 9, hc => cases hc; exact h9
      | 10, hc => cases hc; exact h10
      | 11, hc => cases hc; exact h11
      | n + 12, hc => simp at hc
    · match k, hk with
      | 0, hk => cases hk; exact ⟨fun n z => ⟨fun k h => (by cases h), kcI, gcI, mcI, qcI⟩, fcI⟩
      | 1, hk => cases hk; exact ⟨fun n z => ⟨fun k h => (by cases h), kcJ, gcJ, mcJ, qcJ⟩, fcJ⟩
      | 2, hk => cases hk; exact ⟨fun n z => ⟨fun k h => (by cases h), kcZ, gcZ, mcZ, qcZ⟩, fcZ⟩
      | 3, hk => cases hk; exact ⟨fun n z => ⟨fun k h => (by cases h), kA, gA, mA, qA⟩, fA⟩
      | n + 4, hk => simp at hk
  obtain ⟨t0, e0, T0⟩ := va_Tof (s := s) (args := #[Value.ref b]) (tm := (.static "SpokenClock" "WIDTHS" "[I")) (ty := .int) (N := 7) (f := fun j => .int (zWID j)) (A := fun q => s.heap.size ≤ q) (by decide) (hs _ (by decide +kernel)) (va_eqt (hs (Cond.eq (.length (.static "SpokenClock" "WIDTHS" "[I")) (.int 7)) (by decide +kernel))) (fun j hj => by
      match j, hj with
      | 0, _ => exact va_eqt (hs (Cond.eq (.elem (.static "SpokenClock" "WIDTHS" "[I") (.int 0)) (.int 1)) (by decide +kernel))
      | 1, _ => exact va_eqt (hs (Cond.eq (.elem (.static "SpokenClock" "WIDTHS" "[I") (.int 1)) (.int 1)) (by decide +kernel))
      | 2, _ => exact va_eqt (hs (Cond.eq (.elem (.static "SpokenClock" "WIDTHS" "[I") (.int 2)) (.int 1)) (by decide +kernel))
      | 3, _ => exact va_eqt (hs (Cond.eq (.elem (.static "SpokenClock" "WIDTHS" "[I") (.int 3)) (.int 2)) (by decide +kernel))
      | 4, _ => exact va_eqt (hs (Cond.eq (.elem (.static "SpokenClock" "WIDTHS" "[I") (.int 4)) (.int 3)) (by decide +kernel))
      | 5, _ => exact va_eqt (hs (Cond.eq (.elem (.static "SpokenClock" "WIDTHS" "[I") (.int 5)) (.int 3)) (by decide +kernel))
      | 6, _ => exact va_eqt (hs (Cond.eq (.elem (.static "SpokenClock" "WIDTHS" "[I") (.int 6)) (.int 2)) (by decide +kernel))
      | n + 7, h => exact absurd h (by omega)) hA
  obtain ⟨t1, e1, T1⟩ := va_Tof (s := s) (args := #[Value.ref b]) (tm := (.static "SpokenClock" "LEAST" "[I")) (ty := .int) (N := 21) (f := fun j => .int (zLEA j)) (A := fun q => s.heap.size ≤ q) (by decide) (hs _ (by decide +kernel)) (va_eqt (hs (Cond.eq (.length (.static "SpokenClock" "LEAST" "[I")) (.int 21)) (by decide +kernel))) (fun j hj => by
      match j, hj with
      | 0, _ => exact va_eqt (hs (Cond.eq (.elem (.static "SpokenClock" "LEAST" "[I") (.int 0)) (.int 1)) (by decide +kernel))
      | 1, _ => exact va_eqt (hs (Cond.eq (.elem (.static "SpokenClock" "LEAST" "[I") (.int 1)) (.int 0)) (by decide +kernel))
      | 2, _ => exact va_eqt (hs (Cond.eq (.elem (.static "SpokenClock" "LEAST" "[I") (.int 2)) (.int 0)) (by decide +kernel))
      | 3, _ => exact va_eqt (hs (Cond.eq (.elem (.static "SpokenClock" "LEAST" "[I") (.int 3)) (.int 0)) (by decide +kernel))
      | 4, _ => exact va_eqt (hs (Cond.eq (.elem (.static "SpokenClock" "LEAST" "[I") (.int 4)) (.int 0)) (by decide +kernel))
      | 5, _ => exact va_eqt (hs (Cond.eq (.elem (.static "SpokenClock" "LEAST" "[I") (.int 5)) (.int 0)) (by decide +kernel))
      | 6, _ => exact va_eqt (hs (Cond.eq (.elem (.static "SpokenClock" "LEAST" "[I") (.int 6)) (.int 0)) (by decide +kernel))
      | 7, _ => exact va_eqt (hs (Cond.eq (.elem (.static "SpokenClock" "LEAST" "[I") (.int 7)) (.int 0)) (by decide +kernel))
      | 8, _ => exact va_eqt (hs (Cond.eq (.elem (.static "SpokenClock" "LEAST" "[I") (.int 8)) (.int 0)) (by decide +kernel))
      | 9, _ => exact va_eqt (hs (Cond.eq (.elem (.static "SpokenClock" "LEAST" "[I") (.int 9)) (.int 0)) (by decide +kernel))
      | 10, _ => exact va_eqt (hs (Cond.eq (.elem (.static "SpokenClock" "LEAST" "[I") (.int 10)) (.int 0)) (by decide +kernel))
      | 11, _ => exact va_eqt (hs (Cond.eq (.elem (.static "SpokenClock" "LEAST" "[I") (.int 11)) (.int 0)) (by decide +kernel))
      | 12, _ => exact va_eqt (hs (Cond.eq (.elem (.static "SpokenClock" "LEAST" "[I") (.int 12)) (.int 0)) (by decide +kernel))
      | 13, _ => exact va_eqt (hs (Cond.eq (.elem (.static "SpokenClock" "LEAST" "[I") (.int 13)) (.int 0)) (by decide +kernel))
      | 14, _ => exact va_eqt (hs (Cond.eq (.elem (.static "SpokenClock" "LEAST" "[I") (.int 14)) (.int 0)) (by decide +kernel))
      | 15, _ => exact va_eqt (hs (Cond.eq (.elem (.static "SpokenClock" "LEAST" "[I") (.int 15)) (.int 0)) (by decide +kernel))
      | 16, _ => exact va_eqt (hs (Cond.eq (.elem (.static "SpokenClock" "LEAST" "[I") (.int 16)) (.int 0)) (by decide +kernel))
      | 17, _ => exact va_eqt (hs (Cond.eq (.elem (.static "SpokenClock" "LEAST" "[I") (.int 17)) (.int (-99))) (by decide +kernel))
      | 18, _ => exact va_eqt (hs (Cond.eq (.elem (.static "SpokenClock" "LEAST" "[I") (.int 18)) (.int 0)) (by decide +kernel))
      | 19, _ => exact va_eqt (hs (Cond.eq (.elem (.static "SpokenClock" "LEAST" "[I") (.int 19)) (.int 0)) (by decide +kernel))
      | 20, _ => exact va_eqt (hs (Cond.eq (.elem (.static "SpokenClock" "LEAST" "[I") (.int 20)) (.int 0)) (by decide +kernel))
      | n + 21, h => exact absurd h (by omega)) hA
  obtain ⟨t2, e2, T2⟩ := va_Tof (s := s) (args := #[Value.ref b]) (tm := (.static "SpokenClock" "MOST" "[I")) (ty := .int) (N := 21) (f := fun j => .int (zMOS j)) (A := fun q => s.heap.size ≤ q) (by decide) (hs _ (by decide +kernel)) (va_eqt (hs (Cond.eq (.length (.static "SpokenClock" "MOST" "[I")) (.int 21)) (by decide +kernel))) (fun j hj => by
      match j, hj with
      | 0, _ => exact va_eqt (hs (Cond.eq (.elem (.static "SpokenClock" "MOST" "[I") (.int 0)) (.int 4)) (by decide +kernel))
      | 1, _ => exact va_eqt (hs (Cond.eq (.elem (.static "SpokenClock" "MOST" "[I") (.int 1)) (.int 0)) (by decide +kernel))
      | 2, _ => exact va_eqt (hs (Cond.eq (.elem (.static "SpokenClock" "MOST" "[I") (.int 2)) (.int 0)) (by decide +kernel))
      | 3, _ => exact va_eqt (hs (Cond.eq (.elem (.static "SpokenClock" "MOST" "[I") (.int 3)) (.int 1)) (by decide +kernel))
      | 4, _ => exact va_eqt (hs (Cond.eq (.elem (.static "SpokenClock" "MOST" "[I") (.int 4)) (.int 0)) (by decide +kernel))
      | 5, _ => exact va_eqt (hs (Cond.eq (.elem (.static "SpokenClock" "MOST" "[I") (.int 5)) (.int 0)) (by decide +kernel))
      | 6, _ => exact va_eqt (hs (Cond.eq (.elem (.static "SpokenClock" "MOST" "[I") (.int 6)) (.int 240)) (by decide +kernel))
      | 7, _ => exact va_eqt (hs (Cond.eq (.elem (.static "SpokenClock" "MOST" "[I") (.int 7)) (.int 0)) (by decide +kernel))
      | 8, _ => exact va_eqt (hs (Cond.eq (.elem (.static "SpokenClock" "MOST" "[I") (.int 8)) (.int 0)) (by decide +kernel))
      | 9, _ => exact va_eqt (hs (Cond.eq (.elem (.static "SpokenClock" "MOST" "[I") (.int 9)) (.int 5)) (by decide +kernel))
      | 10, _ => exact va_eqt (hs (Cond.eq (.elem (.static "SpokenClock" "MOST" "[I") (.int 10)) (.int 1)) (by decide +kernel))
      | 11, _ => exact va_eqt (hs (Cond.eq (.elem (.static "SpokenClock" "MOST" "[I") (.int 11)) (.int 0)) (by decide +kernel))
      | 12, _ => exact va_eqt (hs (Cond.eq (.elem (.static "SpokenClock" "MOST" "[I") (.int 12)) (.int 4)) (by decide +kernel))
      | 13, _ => exact va_eqt (hs (Cond.eq (.elem (.static "SpokenClock" "MOST" "[I") (.int 13)) (.int 239)) (by decide +kernel))
      | 14, _ => exact va_eqt (hs (Cond.eq (.elem (.static "SpokenClock" "MOST" "[I") (.int 14)) (.int 240)) (by decide +kernel))
      | 15, _ => exact va_eqt (hs (Cond.eq (.elem (.static "SpokenClock" "MOST" "[I") (.int 15)) (.int 99)) (by decide +kernel))
      | 16, _ => exact va_eqt (hs (Cond.eq (.elem (.static "SpokenClock" "MOST" "[I") (.int 16)) (.int 99)) (by decide +kernel))
      | 17, _ => exact va_eqt (hs (Cond.eq (.elem (.static "SpokenClock" "MOST" "[I") (.int 17)) (.int 99)) (by decide +kernel))
      | 18, _ => exact va_eqt (hs (Cond.eq (.elem (.static "SpokenClock" "MOST" "[I") (.int 18)) (.int 240)) (by decide +kernel))
      | 19, _ => exact va_eqt (hs (Cond.eq (.elem (.static "SpokenClock" "MOST" "[I") (.int 19)) (.int 999)) (by decide +kernel))
      | 20, _ => exact va_eqt (hs (Cond.eq (.elem (.static "SpokenClock" "MOST" "[I") (.int 20)) (.int 0)) (by decide +kernel))
      | n + 21, h => exact absurd h (by omega)) hA
  obtain ⟨aK, aV, hvk, hev⟩ := vk_Sof (s := s) (args := #[Value.ref b]) (N := 7) (tm := fun i => .string "SpokenClock$Reader" (116 + 2 * i)) (len := zLen) (byt := zByt) (A := fun q => s.heap.size ≤ q) (fun i hi => by
      match i, hi with
      | 0, _ => decide
      | 1, _ => decide
      | 2, _ => decide
      | 3, _ => decide
      | 4, _ => decide
      | 5, _ => decide
      | 6, _ => decide
      | n + 7, h => exact absurd h (by omega))
    (fun i hi => by
        match i, hi with
        | 0, _ => exact hs (Cond.exactly (.string "SpokenClock$Reader" 116) "java/lang/String") (by decide +kernel)
        | 1, _ => exact hs (Cond.exactly (.string "SpokenClock$Reader" 118) "java/lang/String") (by decide +kernel)
        | 2, _ => exact hs (Cond.exactly (.string "SpokenClock$Reader" 120) "java/lang/String") (by decide +kernel)
        | 3, _ => exact hs (Cond.exactly (.string "SpokenClock$Reader" 122) "java/lang/String") (by decide +kernel)
        | 4, _ => exact hs (Cond.exactly (.string "SpokenClock$Reader" 124) "java/lang/String") (by decide +kernel)
        | 5, _ => exact hs (Cond.exactly (.string "SpokenClock$Reader" 126) "java/lang/String") (by decide +kernel)
        | 6, _ => exact hs (Cond.exactly (.string "SpokenClock$Reader" 128) "java/lang/String") (by decide +kernel)
        | n + 7, h => exact absurd h (by omega))
    (fun i hi => by
        match i, hi with
        | 0, _ => exact hs (Cond.eq (.field (.string "SpokenClock$Reader" 116) "java/lang/String" "coder" "B") (.int 0)) (by decide +kernel)
        | 1, _ => exact hs (Cond.eq (.field (.string "SpokenClock$Reader" 118) "java/lang/String" "coder" "B") (.int 0)) (by decide +kernel)
        | 2, _ => exact hs (Cond.eq (.field (.string "SpokenClock$Reader" 120) "java/lang/String" "coder" "B") (.int 0)) (by decide +kernel)
        | 3, _ => exact hs (Cond.eq (.field (.string "SpokenClock$Reader" 122) "java/lang/String" "coder" "B") (.int 0)) (by decide +kernel)
        | 4, _ => exact hs (Cond.eq (.field (.string "SpokenClock$Reader" 124) "java/lang/String" "coder" "B") (.int 0)) (by decide +kernel)
        | 5, _ => exact hs (Cond.eq (.field (.string "SpokenClock$Reader" 126) "java/lang/String" "coder" "B") (.int 0)) (by decide +kernel)
        | 6, _ => exact hs (Cond.eq (.field (.string "SpokenClock$Reader" 128) "java/lang/String" "coder" "B") (.int 0)) (by decide +kernel)
        | n + 7, h => exact absurd h (by omega))
    (fun i hi => by
        match i, hi with
        | 0, _ => exact hs (Cond.arrayOf (.field (.string "SpokenClock$Reader" 116) "java/lang/String" "value" "[B") .byte) (by decide +kernel)
        | 1, _ => exact hs (Cond.arrayOf (.field (.string "SpokenClock$Reader" 118) "java/lang/String" "value" "[B") .byte) (by decide +kernel)
        | 2, _ => exact hs (Cond.arrayOf (.field (.string "SpokenClock$Reader" 120) "java/lang/String" "value" "[B") .byte) (by decide +kernel)
        | 3, _ => exact hs (Cond.arrayOf (.field (.string "SpokenClock$Reader" 122) "java/lang/String" "value" "[B") .byte) (by decide +kernel)
        | 4, _ => exact hs (Cond.arrayOf (.field (.string "SpokenClock$Reader" 124) "java/lang/String" "value" "[B") .byte) (by decide +kernel)
        | 5, _ => exact hs (Cond.arrayOf (.field (.string "SpokenClock$Reader" 126) "java/lang/String" "value" "[B") .byte) (by decide +kernel)
        | 6, _ => exact hs (Cond.arrayOf (.field (.string "SpokenClock$Reader" 128) "java/lang/String" "value" "[B") .byte) (by decide +kernel)
        | n + 7, h => exact absurd h (by omega))
    (fun i hi => by
        match i, hi with
        | 0, _ => exact hs (Cond.eq (.length (.field (.string "SpokenClock$Reader" 116) "java/lang/String" "value" "[B")) (.int 4)) (by decide +kernel)
        | 1, _ => exact hs (Cond.eq (.length (.field (.string "SpokenClock$Reader" 118) "java/lang/String" "value" "[B")) (.int 5)) (by decide +kernel)
        | 2, _ => exact hs (Cond.eq (.length (.field (.string "SpokenClock$Reader" 120) "java/lang/String" "value" "[B")) (.int 3)) (by decide +kernel)
        | 3, _ => exact hs (Cond.eq (.length (.field (.string "SpokenClock$Reader" 122) "java/lang/String" "value" "[B")) (.int 6)) (by decide +kernel)
        | 4, _ => exact hs (Cond.eq (.length (.field (.string "SpokenClock$Reader" 124) "java/lang/String" "value" "[B")) (.int 4)) (by decide +kernel)
        | 5, _ => exact hs (Cond.eq (.length (.field (.string "SpokenClock$Reader" 126) "java/lang/String" "value" "[B")) (.int 3)) (by decide +kernel)
        | 6, _ => exact hs (Cond.eq (.length (.field (.string "SpokenClock$Reader" 128) "java/lang/String" "value" "[B")) (.int 5)) (by decide +kernel)
        | n + 7, h => exact absurd h (by omega))
    (fun i hi j hj => by
        match i, hi, j, hj with
        | 0, _, 0, _ => exact hs (Cond.eq (.elem (.field (.string "SpokenClock$Reader" 116) "java/lang/String" "value" "[B") (.int 0)) (.int 102)) (by decide +kernel)
        | 0, _, 1, _ => exact hs (Cond.eq (.elem (.field (.string "SpokenClock$Reader" 116) "java/lang/String" "value" "[B") (.int 1)) (.int 97)) (by decide +kernel)
        | 0, _, 2, _ => exact hs (Cond.eq (.elem (.field (.string "SpokenClock$Reader" 116) "java/lang/String" "value" "[B") (.int 2)) (.int 115)) (by decide +kernel)
        | 0, _, 3, _ => exact hs (Cond.eq (.elem (.field (.string "SpokenClock$Reader" 116) "java/lang/String" "value" "[B") (.int 3)) (.int 116)) (by decide +kernel)
        | 1, _, 0, _ => exact hs (Cond.eq (.elem (.field (.string "SpokenClock$Reader" 118) "java/lang/String" "value" "[B") (.int 0)) (.int 115)) (by decide +kernel)
        | 1, _, 1, _ => exact hs (Cond.eq (.elem (.field (.string "SpokenClock$Reader" 118) "java/lang/String" "value" "[B") (.int 1)) (.int 111)) (by decide +kernel)
        | 1, _, 2, _ => exact hs (Cond.eq (.elem (.field (.string "SpokenClock$Reader" 118) "java/lang/String" "value" "[B") (.int 2)) (.int 110)) (by decide +kernel)
        | 1, _, 3, _ => exact hs (Cond.eq (.elem (.field (.string "SpokenClock$Reader" 118) "java/lang/String" "value" "[B") (.int 3)) (.int 103)) (by decide +kernel)
        | 1, _, 4, _ => exact hs (Cond.eq (.elem (.field (.string "SpokenClock$Reader" 118) "java/lang/String" "value" "[B") (.int 4)) (.int 115)) (by decide +kernel)
        | 2, _, 0, _ => exact hs (Cond.eq (.elem (.field (.string "SpokenClock$Reader" 120) "java/lang/String" "value" "[B") (.int 0)) (.int 98)) (by decide +kernel)
        | 2, _, 1, _ => exact hs (Cond.eq (.elem (.field (.string "SpokenClock$Reader" 120) "java/lang/String" "value" "[B") (.int 1)) (.int 101)) (by decide +kernel)
        | 2, _, 2, _ => exact hs (Cond.eq (.elem (.field (.string "SpokenClock$Reader" 120) "java/lang/String" "value" "[B") (.int 2)) (.int 100)) (by decide +kernel)
        | 3, _, 0, _ => exact hs (Cond.eq (.elem (.field (.string "SpokenClock$Reader" 122) "java/lang/String" "value" "[B") (.int 0)) (.int 112)) (by decide +kernel)
        | 3, _, 1, _ => exact hs (Cond.eq (.elem (.field (.string "SpokenClock$Reader" 122) "java/lang/String" "value" "[B") (.int 1)) (.int 101)) (by decide +kernel)
        | 3, _, 2, _ => exact hs (Cond.eq (.elem (.field (.string "SpokenClock$Reader" 122) "java/lang/String" "value" "[B") (.int 2)) (.int 114)) (by decide +kernel)
        | 3, _, 3, _ => exact hs (Cond.eq (.elem (.field (.string "SpokenClock$Reader" 122) "java/lang/String" "value" "[B") (.int 3)) (.int 115)) (by decide +kernel)
        | 3, _, 4, _ => exact hs (Cond.eq (.elem (.field (.string "SpokenClock$Reader" 122) "java/lang/String" "value" "[B") (.int 4)) (.int 111)) (by decide +kernel)
        | 3, _, 5, _ => exact hs (Cond.eq (.elem (.field (.string "SpokenClock$Reader" 122) "java/lang/String" "value" "[B") (.int 5)) (.int 110)) (by decide +kernel)
        | 4, _, 0, _ => exact hs (Cond.eq (.elem (.field (.string "SpokenClock$Reader" 124) "java/lang/String" "value" "[B") (.int 0)) (.int 116)) (by decide +kernel)
        | 4, _, 1, _ => exact hs (Cond.eq (.elem (.field (.string "SpokenClock$Reader" 124) "java/lang/String" "value" "[B") (.int 1)) (.int 97)) (by decide +kernel)
        | 4, _, 2, _ => exact hs (Cond.eq (.elem (.field (.string "SpokenClock$Reader" 124) "java/lang/String" "value" "[B") (.int 2)) (.int 108)) (by decide +kernel)
        | 4, _, 3, _ => exact hs (Cond.eq (.elem (.field (.string "SpokenClock$Reader" 124) "java/lang/String" "value" "[B") (.int 3)) (.int 107)) (by decide +kernel)
        | 5, _, 0, _ => exact hs (Cond.eq (.elem (.field (.string "SpokenClock$Reader" 126) "java/lang/String" "value" "[B") (.int 0)) (.int 100)) (by decide +kernel)
        | 5, _, 1, _ => exact hs (Cond.eq (.elem (.field (.string "SpokenClock$Reader" 126) "java/lang/String" "value" "[B") (.int 1)) (.int 117)) (by decide +kernel)
        | 5, _, 2, _ => exact hs (Cond.eq (.elem (.field (.string "SpokenClock$Reader" 126) "java/lang/String" "value" "[B") (.int 2)) (.int 101)) (by decide +kernel)
        | 6, _, 0, _ => exact hs (Cond.eq (.elem (.field (.string "SpokenClock$Reader" 128) "java/lang/String" "value" "[B") (.int 0)) (.int 115)) (by decide +kernel)
        | 6, _, 1, _ => exact hs (Cond.eq (.elem (.field (.string "SpokenClock$Reader" 128) "java/lang/String" "value" "[B") (.int 1)) (.int 105)) (by decide +kernel)
        | 6, _, 2, _ => exact hs (Cond.eq (.elem (.field (.string "SpokenClock$Reader" 128) "java/lang/String" "value" "[B") (.int 2)) (.int 103)) (by decide +kernel)
        | 6, _, 3, _ => exact hs (Cond.eq (.elem (.field (.string "SpokenClock$Reader" 128) "java/lang/String" "value" "[B") (.int 3)) (.int 104)) (by decide +kernel)
        | 6, _, 4, _ => exact hs (Cond.eq (.elem (.field (.string "SpokenClock$Reader" 128) "java/lang/String" "value" "[B") (.int 4)) (.int 116)) (by decide +kernel)
        | 0, _, n + 4, h => exact absurd h (show ¬ n + 4 < 4 by omega)
        | 1, _, n + 5, h => exact absurd h (show ¬ n + 5 < 5 by omega)
        | 2, _, n + 3, h => exact absurd h (show ¬ n + 3 < 3 by omega)
        | 3, _, n + 6, h => exact absurd h (show ¬ n + 6 < 6 by omega)
        | 4, _, n + 4, h => exact absurd h (show ¬ n + 4 < 4 by omega)
        | 5, _, n + 3, h => exact absurd h (show ¬ n + 3 < 3 by omega)
        | 6, _, n + 5, h => exact absurd h (show ¬ n + 5 < 5 by omega)
        | n + 7, h, _, _ => exact absurd h (by omega))
    (fun i j hi hj hij => by
        match i, hi, j, hj with
        | 0, _, 0, _ => exact absurd rfl hij
        | 0, _, 1, _ => exact Or.inl (hs (Cond.not (Cond.eq (.string "SpokenClock$Reader" 116) (.string "SpokenClock$Reader" 118))) (by decide +kernel))
        | 0, _, 2, _ => exact Or.inl (hs (Cond.not (Cond.eq (.string "SpokenClock$Reader" 116) (.string "SpokenClock$Reader" 120))) (by decide +kernel))
        | 0, _, 3, _ => exact Or.inl (hs (Cond.not (Cond.eq (.string "SpokenClock$Reader" 116) (.string "SpokenClock$Reader" 122))) (by decide +kernel))
        | 0, _, 4, _ => exact Or.inl (hs (Cond.not (Cond.eq (.string "SpokenClock$Reader" 116) (.string "SpokenClock$Reader" 124))) (by decide +kernel))
        | 0, _, 5, _ => exact Or.inl (hs (Cond.not (Cond.eq (.string "SpokenClock$Reader" 116) (.string "SpokenClock$Reader" 126))) (by decide +kernel))
        | 0, _, 6, _ => exact Or.inl (hs (Cond.not (Cond.eq (.string "SpokenClock$Reader" 116) (.string "SpokenClock$Reader" 128))) (by decide +kernel))
        | 1, _, 0, _ => exact Or.inr (hs (Cond.not (Cond.eq (.string "SpokenClock$Reader" 116) (.string "SpokenClock$Reader" 118))) (by decide +kernel))
        | 1, _, 1, _ => exact absurd rfl hij
        | 1, _, 2, _ => exact Or.inl (hs (Cond.not (Cond.eq (.string "SpokenClock$Reader" 118) (.string "SpokenClock$Reader" 120))) (by decide +kernel))
        | 1, _, 3, _ => exact Or.inl (hs (Cond.not (Cond.eq (.string "SpokenClock$Reader" 118) (.string "SpokenClock$Reader" 122))) (by decide +kernel))
        | 1, _, 4, _ => exact Or.inl (hs (Cond.not (Cond.eq (.string "SpokenClock$Reader" 118) (.string "SpokenClock$Reader" 124))) (by decide +kernel))
        | 1, _, 5, _ => exact Or.inl (hs (Cond.not (Cond.eq (.string "SpokenClock$Reader" 118) (.string "SpokenClock$Reader" 126))) (by decide +kernel))
        | 1, _, 6, _ => exact Or.inl (hs (Cond.not (Cond.eq (.string "SpokenClock$Reader" 118) (.string "SpokenClock$Reader" 128))) (by decide +kernel))
        | 2, _, 0, _ => exact Or.inr (hs (Cond.not (Cond.eq (.string "SpokenClock$Reader" 116) (.string "SpokenClock$Reader" 120))) (by decide +kernel))
        | 2, _, 1, _ => exact Or.inr (hs (Cond.not (Cond.eq (.string "SpokenClock$Reader" 118) (.string "SpokenClock$Reader" 120))) (by decide +kernel))
        | 2, _, 2, _ => exact absurd rfl hij
        | 2, _, 3, _ => exact Or.inl (hs (Cond.not (Cond.eq (.string "SpokenClock$Reader" 120) (.string "SpokenClock$Reader" 122))) (by decide +kernel))
        | 2, _, 4, _ => exact Or.inl (hs (Cond.not (Cond.eq (.string "SpokenClock$Reader" 120) (.string "SpokenClock$Reader" 124))) (by decide +kernel))
        | 2, _, 5, _ => exact Or.inl (hs (Cond.not (Cond.eq (.string "SpokenClock$Reader" 120) (.string "SpokenClock$Reader" 126))) (by decide +kernel))
        | 2, _, 6, _ => exact Or.inl (hs (Cond.not (Cond.eq (.string "SpokenClock$Reader" 120) (.string "SpokenClock$Reader" 128))) (by decide +kernel))
        | 3, _, 0, _ => exact Or.inr (hs (Cond.not (Cond.eq (.string "SpokenClock$Reader" 116) (.string "SpokenClock$Reader" 122))) (by decide +kernel))
        | 3, _, 1, _ => exact Or.inr (hs (Cond.not (Cond.eq (.string "SpokenClock$Reader" 118) (.string "SpokenClock$Reader" 122))) (by decide +kernel))
        | 3, _, 2, _ => exact Or.inr (hs (Cond.not (Cond.eq (.string "SpokenClock$Reader" 120) (.string "SpokenClock$Reader" 122))) (by decide +kernel))
        | 3, _, 3, _ => exact absurd rfl hij
        | 3, _, 4, _ => exact Or.inl (hs (Cond.not (Cond.eq (.string "SpokenClock$Reader" 122) (.string "SpokenClock$Reader" 124))) (by decide +kernel))
        | 3, _, 5, _ => exact Or.inl (hs (Cond.not (Cond.eq (.string "SpokenClock$Reader" 122) (.string "SpokenClock$Reader" 126))) (by decide +kernel))
        | 3, _, 6, _ => exact Or.inl (hs (Cond.not (Cond.eq (.string "SpokenClock$Reader" 122) (.string "SpokenClock$Reader" 128))) (by decide +kernel))
        | 4, _, 0, _ => exact Or.inr (hs (Cond.not (Cond.eq (.string "SpokenClock$Reader" 116) (.string "SpokenClock$Reader" 124))) (by decide +kernel))
        | 4, _, 1, _ => exact Or.inr (hs (Cond.not (Cond.eq (.string "SpokenClock$Reader" 118) (.string "SpokenClock$Reader" 124))) (by decide +kernel))
        | 4, _, 2, _ => exact Or.inr (hs (Cond.not (Cond.eq (.string "SpokenClock$Reader" 120) (.string "SpokenClock$Reader" 124))) (by decide +kernel))
        | 4, _, 3, _ => exact Or.inr (hs (Cond.not (Cond.eq (.string "SpokenClock$Reader" 122) (.string "SpokenClock$Reader" 124))) (by decide +kernel))
        | 4, _, 4, _ => exact absurd rfl hij
        | 4, _, 5, _ => exact Or.inl (hs (Cond.not (Cond.eq (.string "SpokenClock$Reader" 124) (.string "SpokenClock$Reader" 126))) (by decide +kernel))
        | 4, _, 6, _ => exact Or.inl (hs (Cond.not (Cond.eq (.string "SpokenClock$Reader" 124) (.string "SpokenClock$Reader" 128))) (by decide +kernel))
        | 5, _, 0, _ => exact Or.inr (hs (Cond.not (Cond.eq (.string "SpokenClock$Reader" 116) (.string "SpokenClock$Reader" 126))) (by decide +kernel))
        | 5, _, 1, _ => exact Or.inr (hs (Cond.not (Cond.eq (.string "SpokenClock$Reader" 118) (.string "SpokenClock$Reader" 126))) (by decide +kernel))
        | 5, _, 2, _ => exact Or.inr (hs (Cond.not (Cond.eq (.string "SpokenClock$Reader" 120) (.string "SpokenClock$Reader" 126))) (by decide +kernel))
        | 5, _, 3, _ => exact Or.inr (hs (Cond.not (Cond.eq (.string "SpokenClock$Reader" 122) (.string "SpokenClock$Reader" 126))) (by decide +kernel))
        | 5, _, 4, _ => exact Or.inr (hs (Cond.not (Cond.eq (.string "SpokenClock$Reader" 124) (.string "SpokenClock$Reader" 126))) (by decide +kernel))
        | 5, _, 5, _ => exact absurd rfl hij
        | 5, _, 6, _ => exact Or.inl (hs (Cond.not (Cond.eq (.string "SpokenClock$Reader" 126) (.string "SpokenClock$Reader" 128))) (by decide +kernel))
        | 6, _, 0, _ => exact Or.inr (hs (Cond.not (Cond.eq (.string "SpokenClock$Reader" 116) (.string "SpokenClock$Reader" 128))) (by decide +kernel))
        | 6, _, 1, _ => exact Or.inr (hs (Cond.not (Cond.eq (.string "SpokenClock$Reader" 118) (.string "SpokenClock$Reader" 128))) (by decide +kernel))
        | 6, _, 2, _ => exact Or.inr (hs (Cond.not (Cond.eq (.string "SpokenClock$Reader" 120) (.string "SpokenClock$Reader" 128))) (by decide +kernel))
        | 6, _, 3, _ => exact Or.inr (hs (Cond.not (Cond.eq (.string "SpokenClock$Reader" 122) (.string "SpokenClock$Reader" 128))) (by decide +kernel))
        | 6, _, 4, _ => exact Or.inr (hs (Cond.not (Cond.eq (.string "SpokenClock$Reader" 124) (.string "SpokenClock$Reader" 128))) (by decide +kernel))
        | 6, _, 5, _ => exact Or.inr (hs (Cond.not (Cond.eq (.string "SpokenClock$Reader" 126) (.string "SpokenClock$Reader" 128))) (by decide +kernel))
        | 6, _, 6, _ => exact absurd rfl hij
        | n + 7, h, _, _ => exact absurd h (by omega)
        | 0, _, n + 7, h => exact absurd h (by omega)
        | 1, _, n + 7, h => exact absurd h (by omega)
        | 2, _, n + 7, h => exact absurd h (by omega)
        | 3, _, n + 7, h => exact absurd h (by omega)
        | 4, _, n + 7, h => exact absurd h (by omega)
        | 5, _, n + 7, h => exact absurd h (by omega)
        | 6, _, n + 7, h => exact absurd h (by omega)) hA
  refine ⟨_, cI, cJ, cZ, cA, zgaf t0 t1 t2 aK aV, hK, ?_, ?_, ?_⟩
  · exact ⟨⟨va_Nw.of rfl (htb _ (zt_3 _ (List.mem_of_getElem? (i := 69) rfl))),
        va_Nw.of rfl (htb _ (zt_1 _ (List.mem_of_getElem? (i := 85) rfl))),
        va_Nw.of rfl (htb _ (zt_2 _ (List.mem_of_getElem? (i := 98) rfl))),
        va_Nw.of rfl (htb _ (zt_2 _ (List.mem_of_getElem? (i := 100) rfl))), hao⟩,
      ⟨va_Nw.of rfl (htb _ (zt_1 _ (List.mem_of_getElem? (i := 53) rfl))),
        va_Nw.of rfl (htb _ (zt_1 _ (List.mem_of_getElem? (i := 79) rfl))),
        va_Nw.of rfl (htb _ (zt_1 _ (List.mem_of_getElem? (i := 30) rfl))),
        va_Nw.of rfl (htb _ (zt_3 _ (List.mem_of_getElem? (i := 193) rfl))),
        va_Nw.of rfl (htb _ (zt_3 _ (List.mem_of_getElem? (i := 173) rfl))),
        va_Nw.of rfl (htb _ (zt_4 _ (List.mem_of_getElem? (i := 126) rfl))),
        va_Nw.of rfl (htb _ (zt_4 _ (List.mem_of_getElem? (i := 38) rfl))),
        va_Nw.of rfl (htb _ (zt_4 _ (List.mem_of_getElem? (i := 67) rfl)))⟩,
      ⟨vk_R.of (htb _ (zt_3 _ (List.mem_of_getElem? (i := 8) rfl))) ((hev 0 (by decide)).trans (congrArg (fun z => some (Value.ref z)) (zgaf_k (t0 := t0) (t1 := t1) (t2 := t2) (k := aK) (v := aV) 0 (by decide)))),
        vk_R.of (htb _ (zt_3 _ (List.mem_of_getElem? (i := 9) rfl))) ((hev 1 (by decide)).trans (congrArg (fun z => some (Value.ref z)) (zgaf_k (t0 := t0) (t1 := t1) (t2 := t2) (k := aK) (v := aV) 1 (by decide)))),
        vk_R.of (htb _ (zt_3 _ (List.mem_of_getElem? (i := 10) rfl))) ((hev 2 (by decide)).trans (congrArg (fun z => some (Value.ref z)) (zgaf_k (t0 := t0) (t1 := t1) (t2 := t2) (k := aK) (v := aV) 2 (by decide)))),
        vk_R.of (htb _ (zt_3 _ (List.mem_of_getElem? (i := 11) rfl))) ((hev 3 (by decide)).trans (congrArg (fun z => some (Value.ref z)) (zgaf_k (t0 := t0) (t1 := t1) (t2 := t2) (k := aK) (v := aV) 3 (by decide)))),
        vk_R.of (htb _ (zt_3 _ (List.mem_of_getElem? (i := 12) rfl))) ((hev 4 (by decide)).trans (congrArg (fun z => some (Value.ref z)) (zgaf_k (t0 := t0) (t1 := t1) (t2 := t2) (k := aK) (v := aV) 4 (by decide)))),
        vk_R.of (htb _ (zt_3 _ (List.mem_of_getElem? (i := 13) rfl))) ((hev 5 (by decide)).trans (congrArg (fun z => some (Value.ref z)) (zgaf_k (t0 := t0) (t1 := t1) (t2 := t2) (k := aK) (v := aV) 5 (by decide)))),
        vk_R.of (htb _ (zt_3 _ (List.mem_of_getElem? (i := 14) rfl))) ((hev 6 (by decide)).trans (congrArg (fun z => some (Value.ref z)) (zgaf_k (t0 := t0) (t1 := t1) (t2 := t2) (k := aK) (v := aV) 6 (by decide))))⟩⟩
  · exact ⟨va_Zref (htb _ (zt_1 _ (List.mem_of_getElem? (i := 86) rfl))) (htb _ (zt_1 _ (List.mem_of_getElem? (i := 1) rfl))) e0 hA, T0, va_Zref (htb _ (zt_2 _ (List.mem_of_getElem? (i := 99) rfl))) (htb _ (zt_1 _ (List.mem_of_getElem? (i := 1) rfl))) e1 hA, T1, va_Zref (htb _ (zt_2 _ (List.mem_of_getElem? (i := 101) rfl))) (htb _ (zt_1 _ (List.mem_of_getElem? (i := 1) rfl))) e2 hA, T2⟩
  · exact ⟨zvk_congr zgaf_k zgaf_v hvk, va_Zof (htb _ (zt_3 _ (List.mem_of_getElem? (i := 28) rfl))) (htb _ (zt_1 _ (List.mem_of_getElem? (i := 15) rfl))) (va_eqi (hs (Cond.eq (.static "java/lang/String" "COMPACT_STRINGS" "Z") (.int 1)) (by decide +kernel))) hA, va_Zqof (htb _ (zt_3 _ (List.mem_of_getElem? (i := 44) rfl))) (htb _ (zt_1 _ (List.mem_of_getElem? (i := 17) rfl))) (hs (Cond.isRef (.static "jdk/internal/util/Preconditions" "SIOOBE_FORMATTER" "Ljava/util/function/BiFunction;")) (by decide +kernel)) hA⟩

set_option maxHeartbeats 4000000 in
set_option maxRecDepth 100000 in
/-- from the entry to the end, over any invariant that holds at first and is kept by every call -/
theorem zwhole {p : Program} {e : Env} {s : State} {m : MethodId} {below : List Frame} {meth : Method} {c : Code} (l : Launch) {b L : Nat} {xs : Nat → Int32} (hL : L ≤ 3072) (C0 : lw_At p s m meth c b L xs) (Inv : (Nat → Int32) → (Nat → Nat → Int32) → (Nat → Nat → Int64) → Int64 → Prop) (hinit : Inv zI0 zA0 zJ0 0) (hsteps : zsteps Inv) : W p l e room_1 s m #[Value.ref b] below meth c s.heap [] 0 0 (lw_Z below #[Value.ref b] s) (entryFrame m ([Value.ref b] : List Value).toArray 4) := by
  obtain ⟨hx, hbc, hr, hml, hown, htb, hX, hbl, hlocks, hgv⟩ := C0
  have S : CallFix p m c cL_law 4 s #[Value.ref b] (Cond.classLink RL 7 RX10 :: wsL_law) RL := ⟨hx, hbc, hml, hown, fun w h => by
    rcases List.mem_cons.mp h with rfl | h
    · exact htb _ (zlaw_in _ zw_0)
    · exact htb _ (zlaw_in _ h)⟩
  have ht : ∀ w, w ∈ wsL_law → w.before #[Value.ref b] s = true := fun w h => htb w (zlaw_in w h)
  obtain ⟨D, cI, cJ, cZ, cA, ga, hK, hG⟩ := zstart (b := b) htb hgv
  have hA : ∀ q, s.heap.size ≤ q → (fun q => s.heap.size ≤ q) q := fun _ h => h
  have hbA : ¬ (fun q => s.heap.size ≤ q) b := by show ¬ s.heap.size ≤ b; omega
  have hP : va_P D vwCl [] s.heap := fun k q h => by simp at h
  have hD : va_D (fun q => s.heap.size ≤ q) ([] : va_W) := ⟨fun i j p q h => by simp at h, fun k q h => by simp at h⟩
  have hS : va_S (fun q => s.heap.size ≤ q) s.heap s.heap [] := va_S.rf
  have hl := lv_entry ([.ref b]) (n := 4) (Nat.le_of_ble_eq_true rfl)
  rw [lg_entry_eq]
  generalize (lg_sl ([.ref b]) ++ List.replicate (4 - (lg_sl ([.ref b])).length) Slot.unset).toArray = ls at hl ⊢
  have hl : lv_has ls 4 [(0, .ref b)] := hl
  refine znew (C := RX10) (T := TX10) (N := 14) (ci := 10) (k2 := 1) (n2 := 14) S zf_10 tyX10 tyX10_ok zw_0 zw_1 zw_2 hK hP hD hS hA rfl zfs_10 (Nat.le_of_ble_eq_true rfl) (Nat.le_of_ble_eq_true rfl) dL_law_0 (Nat.le_of_ble_eq_true rfl) (Nat.le_of_ble_eq_true rfl) (fun qx H hP hD hS => ?_)
  have hP : va_P D vwCl [(qx, .inr (10, [.null, .null, .null, .null, .null, .null, .null, .null, .null, .null, .null, .null, .null, .null]))] H := hP
  have hD : va_D (fun q => s.heap.size ≤ q) [(qx, .inr (10, [.null, .null, .null, .null, .null, .null, .null, .null, .null, .null, .null, .null, .null, .null]))] := hD
  refine lv_dup hx hbc dL_law_3 rfl ?_
  refine zcallK (rest := [.ref qx]) S (k_X10_init l D cI cJ cZ cA ga qx) (zgI zw_9) rfl (List.mem_cons_of_mem _ zw_2) (List.mem_cons_of_mem _ zw_7) (List.mem_cons_of_mem _ zw_8) rfl hdk_X10_init ⟨rfl, rfl⟩ ⟨(Nat.le_of_ble_eq_true rfl), (Nat.le_of_ble_eq_true rfl)⟩ rfl hl.1 rfl (Nat.le_of_ble_eq_true rfl) dL_law_4 hP hD hS hA hK hG (isC := [0]) (isR := []) rfl (by decide +kernel) (wr := []) rfl (by decide +kernel) (by decide +kernel) ⟨(Nat.le_of_ble_eq_true rfl), (Nat.le_of_ble_eq_true rfl)⟩ (fun ndx H locs hP hD hS => ?_)
  have hP : va_P D vwCl [(qx, .inr (10, [.ref (ndx 39), .ref (ndx 52), .ref (ndx 65), .ref (ndx 76), .ref (ndx 67), .ref (ndx 71), .ref (ndx 78), .ref (ndx 81), .ref (ndx 0), .ref (ndx 4), .ref (ndx 11), .ref (ndx 24), .ref (ndx 37), .ref (ndx 38)])), ((ndx 0), .inr (5, [.ref (ndx 1), .ref (ndx 2), .ref (ndx 3), .int 0, .int 0])), ((ndx 1), .inl (cI, 21, .inl (fun _ => 0))), ((ndx 2), .inl (cI, 21, .inl (fun _ => 0))), ((ndx 3), .inl (cI, 40, .inl (fun _ => 0))), ((ndx 4), .inr (2, [.ref (ndx 5), .ref (ndx 7), .ref (ndx 9)])), ((ndx 5), .inr (0, [.ref (ndx 6)])), ((ndx 6), .inl (cI, 8, .inl (upd (fun _ => 0) 0 0))), ((ndx 7), .inr (0, [.ref (ndx 8)])), ((ndx 8), .inl (cI, 8, .inl (upd (fun _ => 0) 0 1))), ((ndx 9), .inr (0, [.ref (ndx 10)])), ((ndx 10), .inl (cI, 8, .inl (upd (fun _ => 0) 0 0))), ((ndx 11), .inr (9, [.ref (ndx 12), .ref (ndx 14), .ref (ndx 16), .ref (ndx 18), .ref (ndx 20), .ref (ndx 22), .ref (ndx 23)])), ((ndx 12), .inr (7, [.int 2, .int 5, .ref (ndx 13), .int 0])), ((ndx 13), .inl (cI, 10, .inl (fun _ => 0))), ((ndx 14), .inr (7, [.int 3, .int 16, .ref (ndx 15), .int 0])), ((ndx 15), .inl (cI, 48, .inl (fun _ => 0))), ((ndx 16), .inr (7, [.int 3, .int 8, .ref (ndx 17), .int 0])), ((ndx 17), .inl (cI, 24, .inl (fun _ => 0))), ((ndx 18), .inr (7, [.int 2, .int 10, .ref (ndx 19), .int 0])), ((ndx 19), .inl (cI, 20, .inl (fun _ => 0))), ((ndx 20), .inr (7, [.int 1, .int 40, .ref (ndx 21), .int 0])), ((ndx 21), .inl (cI, 40, .inl (fun _ => 0))), ((ndx 22), .inl (cI, 3, .inl (upd (upd (upd (fun _ => 0) 0 1) 1 0) 2 60))), ((ndx 23), .inl (cI, 5, .inl (fun _ => 0))), ((ndx 24), .inr (9, [.ref (ndx 25), .ref (ndx 27), .ref (ndx 29), .ref (ndx 31), .ref (ndx 33), .ref (ndx 35), .ref (ndx 36)])), ((ndx 25), .inr (7, [.int 2, .int 5, .ref (ndx 26), .int 0])), ((ndx 26), .inl (cI, 10, .inl (fun _ => 0))), ((ndx 27), .inr (7, [.int 3, .int 16, .ref (ndx 28), .int 0])), ((ndx 28), .inl (cI, 48, .inl (fun _ => 0))), ((ndx 29), .inr (7, [.int 3, .int 8, .ref (ndx 30), .int 0])), ((ndx 30), .inl (cI, 24, .inl (fun _ => 0))), ((ndx 31), .inr (7, [.int 2, .int 10, .ref (ndx 32), .int 0])), ((ndx 32), .inl (cI, 20, .inl (fun _ => 0))), ((ndx 33), .inr (7, [.int 1, .int 40, .ref (ndx 34), .int 0])), ((ndx 34), .inl (cI, 40, .inl (fun _ => 0))), ((ndx 35), .inl (cI, 3, .inl (upd (upd (upd (fun _ => 0) 0 1) 1 0) 2 60))), ((ndx 36), .inl (cI, 5, .inl (fun _ => 0))), ((ndx 37), .inl (cZ, 2, .inl (fun _ => 0))), ((ndx 38), .inl (cI, 3, .inl (fun _ => 0))), ((ndx 39), .inr (9, [.ref (ndx 40), .ref (ndx 42), .ref (ndx 44), .ref (ndx 46), .ref (ndx 48), .ref (ndx 50), .ref (ndx 51)])), ((ndx 40), .inr (7, [.int 2, .int 5, .ref (ndx 41), .int 0])), ((ndx 41), .inl (cI, 10, .inl (fun _ => 0))), ((ndx 42), .inr (7, [.int 3, .int 16, .ref (ndx 43), .int 0])), ((ndx 43), .inl (cI, 48, .inl (fun _ => 0))), ((ndx 44), .inr (7, [.int 3, .int 8, .ref (ndx 45), .int 0])), ((ndx 45), .inl (cI, 24, .inl (fun _ => 0))), ((ndx 46), .inr (7, [.int 2, .int 10, .ref (ndx 47), .int 0])), ((ndx 47), .inl (cI, 20, .inl (fun _ => 0))), ((ndx 48), .inr (7, [.int 1, .int 40, .ref (ndx 49), .int 0])), ((ndx 49), .inl (cI, 40, .inl (fun _ => 0))), ((ndx 50), .inl (cI, 3, .inl (upd (upd (upd (fun _ => 0) 0 1) 1 0) 2 60))), ((ndx 51), .inl (cI, 5, .inl (fun _ => 0))), ((ndx 52), .inr (9, [.ref (ndx 53), .ref (ndx 55), .ref (ndx 57), .ref (ndx 59), .ref (ndx 61), .ref (ndx 63), .ref (ndx 64)])), ((ndx 53), .inr (7, [.int 2, .int 5, .ref (ndx 54), .int 0])), ((ndx 54), .inl (cI, 10, .inl (fun _ => 0))), ((ndx 55), .inr (7, [.int 3, .int 16, .ref (ndx 56), .int 0])), ((ndx 56), .inl (cI, 48, .inl (fun _ => 0))), ((ndx 57), .inr (7, [.int 3, .int 8, .ref (ndx 58), .int 0])), ((ndx 58), .inl (cI, 24, .inl (fun _ => 0))), ((ndx 59), .inr (7, [.int 2, .int 10, .ref (ndx 60), .int 0])), ((ndx 60), .inl (cI, 20, .inl (fun _ => 0))), ((ndx 61), .inr (7, [.int 1, .int 40, .ref (ndx 62), .int 0])), ((ndx 62), .inl (cI, 40, .inl (fun _ => 0))), ((ndx 63), .inl (cI, 3, .inl (upd (upd (upd (fun _ => 0) 0 1) 1 0) 2 60))), ((ndx 64), .inl (cI, 5, .inl (fun _ => 0))), ((ndx 65), .inr (7, [.int 1, .int 250, .ref (ndx 66), .int 0])), ((ndx 66), .inl (cI, 250, .inl (fun _ => 0))), ((ndx 67), .inr (8, [.ref (ndx 39), .ref (ndx 68), .ref (ndx 69), .ref (ndx 70), .int 0, .int 0, .int 0, .int 1])), ((ndx 68), .inl (cI, 40, .inl (fun _ => 0))), ((ndx 69), .inl (cJ, 40, .inr (.inl (fun _ => 0)))), ((ndx 70), .inl (cI, 6, .inl (fun _ => 0))), ((ndx 71), .inr (1, [.ref (ndx 39), .ref (ndx 67), .ref (ndx 72), .ref (ndx 73), .int 1])), ((ndx 72), .inl (cI, 240, .inl (fun _ => 0))), ((ndx 73), .inl (cA, 2, .inr (.inr (.inr (.inr (zg2 (some (ndx 74)) (some (ndx 75)))))))), ((ndx 74), .inl (cI, 241, .inl (fun _ => 0))), ((ndx 75), .inl (cI, 241, .inl (fun _ => 0))), ((ndx 76), .inr (6, [.ref (ndx 65), .ref (ndx 52), .ref (ndx 77), .int 0, .int 0, .int 0, .int 0])), ((ndx 77), .inl (cI, 3, .inl (fun _ => 0))), ((ndx 78), .inr (4, [.ref (ndx 39), .ref (ndx 79), .ref (ndx 80), .int 0, .int 1])), ((ndx 79), .inl (cI, 100, .inl (fun _ => 0))), ((ndx 80), .inl (cJ, 495, .inr (.inl (fun _ => 0)))), ((ndx 81), .inr (3, [.ref (ndx 39), .ref (ndx 71), .ref (ndx 82), .int 0, .int 0, .int 0, .int 1])), ((ndx 82), .inl (cI, 241, .inl (fun _ => 0)))] H := hP
  have hD : va_D (fun q => s.heap.size ≤ q) [(qx, .inr (10, [.ref (ndx 39), .ref (ndx 52), .ref (ndx 65), .ref (ndx 76), .ref (ndx 67), .ref (ndx 71), .ref (ndx 78), .ref (ndx 81), .ref (ndx 0), .ref (ndx 4), .ref (ndx 11), .ref (ndx 24), .ref (ndx 37), .ref (ndx 38)])), ((ndx 0), .inr (5, [.ref (ndx 1), .ref (ndx 2), .ref (ndx 3), .int 0, .int 0])), ((ndx 1), .inl (cI, 21, .inl (fun _ => 0))), ((ndx 2), .inl (cI, 21, .inl (fun _ => 0))), ((ndx 3), .inl (cI, 40, .inl (fun _ => 0))), ((ndx 4), .inr (2, [.ref (ndx 5), .ref (ndx 7), .ref (ndx 9)])), ((ndx 5), .inr (0, [.ref (ndx 6)])), ((ndx 6), .inl (cI, 8, .inl (upd (fun _ => 0) 0 0))), ((ndx 7), .inr (0, [.ref (ndx 8)])), ((ndx 8), .inl (cI, 8, .inl (upd (fun _ => 0) 0 1))), ((ndx 9), .inr (0, [.ref (ndx 10)])), ((ndx 10), .inl (cI, 8, .inl (upd (fun _ => 0) 0 0))), ((ndx 11), .inr (9, [.ref (ndx 12), .ref (ndx 14), .ref (ndx 16), .ref (ndx 18), .ref (ndx 20), .ref (ndx 22), .ref (ndx 23)])), ((ndx 12), .inr (7, [.int 2, .int 5, .ref (ndx 13), .int 0])), ((ndx 13), .inl (cI, 10, .inl (fun _ => 0))), ((ndx 14), .inr (7, [.int 3, .int 16, .ref (ndx 15), .int 0])), ((ndx 15), .inl (cI, 48, .inl (fun _ => 0))), ((ndx 16), .inr (7, [.int 3, .int 8, .ref (ndx 17), .int 0])), ((ndx 17), .inl (cI, 24, .inl (fun _ => 0))), ((ndx 18), .inr (7, [.int 2, .int 10, .ref (ndx 19), .int 0])), ((ndx 19), .inl (cI, 20, .inl (fun _ => 0))), ((ndx 20), .inr (7, [.int 1, .int 40, .ref (ndx 21), .int 0])), ((ndx 21), .inl (cI, 40, .inl (fun _ => 0))), ((ndx 22), .inl (cI, 3, .inl (upd (upd (upd (fun _ => 0) 0 1) 1 0) 2 60))), ((ndx 23), .inl (cI, 5, .inl (fun _ => 0))), ((ndx 24), .inr (9, [.ref (ndx 25), .ref (ndx 27), .ref (ndx 29), .ref (ndx 31), .ref (ndx 33), .ref (ndx 35), .ref (ndx 36)])), ((ndx 25), .inr (7, [.int 2, .int 5, .ref (ndx 26), .int 0])), ((ndx 26), .inl (cI, 10, .inl (fun _ => 0))), ((ndx 27), .inr (7, [.int 3, .int 16, .ref (ndx 28), .int 0])), ((ndx 28), .inl (cI, 48, .inl (fun _ => 0))), ((ndx 29), .inr (7, [.int 3, .int 8, .ref (ndx 30), .int 0])), ((ndx 30), .inl (cI, 24, .inl (fun _ => 0))), ((ndx 31), .inr (7, [.int 2, .int 10, .ref (ndx 32), .int 0])), ((ndx 32), .inl (cI, 20, .inl (fun _ => 0))), ((ndx 33), .inr (7, [.int 1, .int 40, .ref (ndx 34), .int 0])), ((ndx 34), .inl (cI, 40, .inl (fun _ => 0))), ((ndx 35), .inl (cI, 3, .inl (upd (upd (upd (fun _ => 0) 0 1) 1 0) 2 60))), ((ndx 36), .inl (cI, 5, .inl (fun _ => 0))), ((ndx 37), .inl (cZ, 2, .inl (fun _ => 0))), ((ndx 38), .inl (cI, 3, .inl (fun _ => 0))), ((ndx 39), .inr (9, [.ref (ndx 40), .ref (ndx 42), .ref (ndx 44), .ref (ndx 46), .ref (ndx 48), .ref (ndx 50), .ref (ndx 51)])), ((ndx 40), .inr (7, [.int 2, .int 5, .ref (ndx 41), .int 0])), ((ndx 41), .inl (cI, 10, .inl (fun _ => 0))), ((ndx 42), .inr (7, [.int 3, .int 16, .ref (ndx 43), .int 0])), ((ndx 43), .inl (cI, 48, .inl (fun _ => 0))), ((ndx 44), .inr (7, [.int 3, .int 8, .ref (ndx 45), .int 0])), ((ndx 45), .inl (cI, 24, .inl (fun _ => 0))), ((ndx 46), .inr (7, [.int 2, .int 10, .ref (ndx 47), .int 0])), ((ndx 47), .inl (cI, 20, .inl (fun _ => 0))), ((ndx 48), .inr (7, [.int 1, .int 40, .ref (ndx 49), .int 0])), ((ndx 49), .inl (cI, 40, .inl (fun _ => 0))), ((ndx 50), .inl (cI, 3, .inl (upd (upd (upd (fun _ => 0) 0 1) 1 0) 2 60))), ((ndx 51), .inl (cI, 5, .inl (fun _ => 0))), ((ndx 52), .inr (9, [.ref (ndx 53), .ref (ndx 55), .ref (ndx 57), .ref (ndx 59), .ref (ndx 61), .ref (ndx 63), .ref (ndx 64)])), ((ndx 53), .inr (7, [.int 2, .int 5, .ref (ndx 54), .int 0])), ((ndx 54), .inl (cI, 10, .inl (fun _ => 0))), ((ndx 55), .inr (7, [.int 3, .int 16, .ref (ndx 56), .int 0])), ((ndx 56), .inl (cI, 48, .inl (fun _ => 0))), ((ndx 57), .inr (7, [.int 3, .int 8, .ref (ndx 58), .int 0])), ((ndx 58), .inl (cI, 24, .inl (fun _ => 0))), ((ndx 59), .inr (7, [.int 2, .int 10, .ref (ndx 60), .int 0])), ((ndx 60), .inl (cI, 20, .inl (fun _ => 0))), ((ndx 61), .inr (7, [.int 1, .int 40, .ref (ndx 62), .int 0])), ((ndx 62), .inl (cI, 40, .inl (fun _ => 0))), ((ndx 63), .inl (cI, 3, .inl (upd (upd (upd (fun _ => 0) 0 1) 1 0) 2 60))), ((ndx 64), .inl (cI, 5, .inl (fun _ => 0))), ((ndx 65), .inr (7, [.int 1, .int 250, .ref (ndx 66), .int 0])), ((ndx 66), .inl (cI, 250, .inl (fun _ => 0))), ((ndx 67), .inr (8, [.ref (ndx 39), .ref (ndx 68), .ref (ndx 69), .ref (ndx 70), .int 0, .int 0, .int 0, .int 1])), ((ndx 68), .inl (cI, 40, .inl (fun _ => 0))), ((ndx 69), .inl (cJ, 40, .inr (.inl (fun _ => 0)))), ((ndx 70), .inl (cI, 6, .inl (fun _ => 0))), ((ndx 71), .inr (1, [.ref (ndx 39), .ref (ndx 67), .ref (ndx 72), .ref (ndx 73), .int 1])), ((ndx 72), .inl (cI, 240, .inl (fun _ => 0))), ((ndx 73), .inl (cA, 2, .inr (.inr (.inr (.inr (zg2 (some (ndx 74)) (some (ndx 75)))))))), ((ndx 74), .inl (cI, 241, .inl (fun _ => 0))), ((ndx 75), .inl (cI, 241, .inl (fun _ => 0))), ((ndx 76), .inr (6, [.ref (ndx 65), .ref (ndx 52), .ref (ndx 77), .int 0, .int 0, .int 0, .int 0])), ((ndx 77), .inl (cI, 3, .inl (fun _ => 0))), ((ndx 78), .inr (4, [.ref (ndx 39), .ref (ndx 79), .ref (ndx 80), .int 0, .int 1])), ((ndx 79), .inl (cI, 100, .inl (fun _ => 0))), ((ndx 80), .inl (cJ, 495, .inr (.inl (fun _ => 0)))), ((ndx 81), .inr (3, [.ref (ndx 39), .ref (ndx 71), .ref (ndx 82), .int 0, .int 0, .int 0, .int 1])), ((ndx 82), .inl (cI, 241, .inl (fun _ => 0)))] := hD
  refine W.widen (k := 84) (n := 2779) (Nat.le_of_ble_eq_true rfl) (Nat.le_of_ble_eq_true rfl) ?_
  refine lv_astore_n (lv' := [(1, .ref qx), (0, .ref b)]) hx hbc dL_law_7 rfl hl (by decide) rfl (fun ls hl => ?_)
  refine znew (C := RX11) (T := TX11) (N := 31) (ci := 11) (k2 := 85) (n2 := 2810) S zf_11 tyX11 tyX11_ok zw_3 zw_4 zw_5 hK hP hD hS hA rfl zfs_11 (Nat.le_of_ble_eq_true rfl) (Nat.le_of_ble_eq_true rfl) dL_law_8 (Nat.le_of_ble_eq_true rfl) (Nat.le_of_ble_eq_true rfl) (fun qm H hP hD hS => ?_)
  have hP : va_P D vwCl [(qx, .inr (10, [.ref (ndx 39), .ref (ndx 52), .ref (ndx 65), .ref (ndx 76), .ref (ndx 67), .ref (ndx 71), .ref (ndx 78), .ref (ndx 81), .ref (ndx 0), .ref (ndx 4), .ref (ndx 11), .ref (ndx 24), .ref (ndx 37), .ref (ndx 38)])), ((ndx 0), .inr (5, [.ref (ndx 1), .ref (ndx 2), .ref (ndx 3), .int 0, .int 0])), ((ndx 1), .inl (cI, 21, .inl (fun _ => 0))), ((ndx 2), .inl (cI, 21, .inl (fun _ => 0))), ((ndx 3), .inl (cI, 40, .inl (fun _ => 0))), ((ndx 4), .inr (2, [.ref (ndx 5), .ref (ndx 7), .ref (ndx 9)])), ((ndx 5), .inr (0, [.ref (ndx 6)])), ((ndx 6), .inl (cI, 8, .inl (upd (fun _ => 0) 0 0))), ((ndx 7), .inr (0, [.ref (ndx 8)])), ((ndx 8), .inl (cI, 8, .inl (upd (fun _ => 0) 0 1))), ((ndx 9), .inr (0, [.ref (ndx 10)])), ((ndx 10), .inl (cI, 8, .inl (upd (fun _ => 0) 0 0))), ((ndx 11), .inr (9, [.ref (ndx 12), .ref (ndx 14), .ref (ndx 16), .ref (ndx 18), .ref (ndx 20), .ref (ndx 22), .ref (ndx 23)])), ((ndx 12), .inr (7, [.int 2, .int 5, .ref (ndx 13), .int 0])), ((ndx 13), .inl (cI, 10, .inl (fun _ => 0))), ((ndx 14), .inr (7, [.int 3, .int 16, .ref (ndx 15), .int 0])), ((ndx 15), .inl (cI, 48, .inl (fun _ => 0))), ((ndx 16), .inr (7, [.int 3, .int 8, .ref (ndx 17), .int 0])), ((ndx 17), .inl (cI, 24, .inl (fun _ => 0))), ((ndx 18), .inr (7, [.int 2, .int 10, .ref (ndx 19), .int 0])), ((ndx 19), .inl (cI, 20, .inl (fun _ => 0))), ((ndx 20), .inr (7, [.int 1, .int 40, .ref (ndx 21), .int 0])), ((ndx 21), .inl (cI, 40, .inl (fun _ => 0))), ((ndx 22), .inl (cI, 3, .inl (upd (upd (upd (fun _ => 0) 0 1) 1 0) 2 60))), ((ndx 23), .inl (cI, 5, .inl (fun _ => 0))), ((ndx 24), .inr (9, [.ref (ndx 25), .ref (ndx 27), .ref (ndx 29), .ref (ndx 31), .ref (ndx 33), .ref (ndx 35), .ref (ndx 36)])), ((ndx 25), .inr (7, [.int 2, .int 5, .ref (ndx 26), .int 0])), ((ndx 26), .inl (cI, 10, .inl (fun _ => 0))), ((ndx 27), .inr (7, [.int 3, .int 16, .ref (ndx 28), .int 0])), ((ndx 28), .inl (cI, 48, .inl (fun _ => 0))), ((ndx 29), .inr (7, [.int 3, .int 8, .ref (ndx 30), .int 0])), ((ndx 30), .inl (cI, 24, .inl (fun _ => 0))), ((ndx 31), .inr (7, [.int 2, .int 10, .ref (ndx 32), .int 0])), ((ndx 32), .inl (cI, 20, .inl (fun _ => 0))), ((ndx 33), .inr (7, [.int 1, .int 40, .ref (ndx 34), .int 0])), ((ndx 34), .inl (cI, 40, .inl (fun _ => 0))), ((ndx 35), .inl (cI, 3, .inl (upd (upd (upd (fun _ => 0) 0 1) 1 0) 2 60))), ((ndx 36), .inl (cI, 5, .inl (fun _ => 0))), ((ndx 37), .inl (cZ, 2, .inl (fun _ => 0))), ((ndx 38), .inl (cI, 3, .inl (fun _ => 0))), ((ndx 39), .inr (9, [.ref (ndx 40), .ref (ndx 42), .ref (ndx 44), .ref (ndx 46), .ref (ndx 48), .ref (ndx 50), .ref (ndx 51)])), ((ndx 40), .inr (7, [.int 2, .int 5, .ref (ndx 41), .int 0])), ((ndx 41), .inl (cI, 10, .inl (fun _ => 0))), ((ndx 42), .inr (7, [.int 3, .int 16, .ref (ndx 43), .int 0])), ((ndx 43), .inl (cI, 48, .inl (fun _ => 0))), ((ndx 44), .inr (7, [.int 3, .int 8, .ref (ndx 45), .int 0])), ((ndx 45), .inl (cI, 24, .inl (fun _ => 0))), ((ndx 46), .inr (7, [.int 2, .int 10, .ref (ndx 47), .int 0])), ((ndx 47), .inl (cI, 20, .inl (fun _ => 0))), ((ndx 48), .inr (7, [.int 1, .int 40, .ref (ndx 49), .int 0])), ((ndx 49), .inl (cI, 40, .inl (fun _ => 0))), ((ndx 50), .inl (cI, 3, .inl (upd (upd (upd (fun _ => 0) 0 1) 1 0) 2 60))), ((ndx 51), .inl (cI, 5, .inl (fun _ => 0))), ((ndx 52), .inr (9, [.ref (ndx 53), .ref (ndx 55), .ref (ndx 57), .ref (ndx 59), .ref (ndx 61), .ref (ndx 63), .ref (ndx 64)])), ((ndx 53), .inr (7, [.int 2, .int 5, .ref (ndx 54), .int 0])), ((ndx 54), .inl (cI, 10, .inl (fun _ => 0))), ((ndx 55), .inr (7, [.int 3, .int 16, .ref (ndx 56), .int 0])), ((ndx 56), .inl (cI, 48, .inl (fun _ => 0))), ((ndx 57), .inr (7, [.int 3, .int 8, .ref (ndx 58), .int 0])), ((ndx 58), .inl (cI, 24, .inl (fun _ => 0))), ((ndx 59), .inr (7, [.int 2, .int 10, .ref (ndx 60), .int 0])), ((ndx 60), .inl (cI, 20, .inl (fun _ => 0))), ((ndx 61), .inr (7, [.int 1, .int 40, .ref (ndx 62), .int 0])), ((ndx 62), .inl (cI, 40, .inl (fun _ => 0))), ((ndx 63), .inl (cI, 3, .inl (upd (upd (upd (fun _ => 0) 0 1) 1 0) 2 60))), ((ndx 64), .inl (cI, 5, .inl (fun _ => 0))), ((ndx 65), .inr (7, [.int 1, .int 250, .ref (ndx 66), .int 0])), ((ndx 66), .inl (cI, 250, .inl (fun _ => 0))), ((ndx 67), .inr (8, [.ref (ndx 39), .ref (ndx 68), .ref (ndx 69), .ref (ndx 70), .int 0, .int 0, .int 0, .int 1])), ((ndx 68), .inl (cI, 40, .inl (fun _ => 0))), ((ndx 69), .inl (cJ, 40, .inr (.inl (fun _ => 0)))), ((ndx 70), .inl (cI, 6, .inl (fun _ => 0))), ((ndx 71), .inr (1, [.ref (ndx 39), .ref (ndx 67), .ref (ndx 72), .ref (ndx 73), .int 1])), ((ndx 72), .inl (cI, 240, .inl (fun _ => 0))), ((ndx 73), .inl (cA, 2, .inr (.inr (.inr (.inr (zg2 (some (ndx 74)) (some (ndx 75)))))))), ((ndx 74), .inl (cI, 241, .inl (fun _ => 0))), ((ndx 75), .inl (cI, 241, .inl (fun _ => 0))), ((ndx 76), .inr (6, [.ref (ndx 65), .ref (ndx 52), .ref (ndx 77), .int 0, .int 0, .int 0, .int 0])), ((ndx 77), .inl (cI, 3, .inl (fun _ => 0))), ((ndx 78), .inr (4, [.ref (ndx 39), .ref (ndx 79), .ref (ndx 80), .int 0, .int 1])), ((ndx 79), .inl (cI, 100, .inl (fun _ => 0))), ((ndx 80), .inl (cJ, 495, .inr (.inl (fun _ => 0)))), ((ndx 81), .inr (3, [.ref (ndx 39), .ref (ndx 71), .ref (ndx 82), .int 0, .int 0, .int 0, .int 1])), ((ndx 82), .inl (cI, 241, .inl (fun _ => 0))), (qm, .inr (11, [.null, .null, .null, .null, .int 0, .int 0, .int 0, .int 0, .null, .null, .null, .int 0, .int 0, .int 0, .long 0, .null, .int 0, .null, .int 0, .null, .null, .int 0, .null, .null, .null, .null, .null, .null, .null, .null, .null]))] H := hP
  have hD : va_D (fun q => s.heap.size ≤ q) [(qx, .inr (10, [.ref (ndx 39), .ref (ndx 52), .ref (ndx 65), .ref (ndx 76), .ref (ndx 67), .ref (ndx 71), .ref (ndx 78), .ref (ndx 81), .ref (ndx 0), .ref (ndx 4), .ref (ndx 11), .ref (ndx 24), .ref (ndx 37), .ref (ndx 38)])), ((ndx 0), .inr (5, [.ref (ndx 1), .ref (ndx 2), .ref (ndx 3), .int 0, .int 0])), ((ndx 1), .inl (cI, 21, .inl (fun _ => 0))), ((ndx 2), .inl (cI, 21, .inl (fun _ => 0))), ((ndx 3), .inl (cI, 40, .inl (fun _ => 0))), ((ndx 4), .inr (2, [.ref (ndx 5), .ref (ndx 7), .ref (ndx 9)])), ((ndx 5), .inr (0, [.ref (ndx 6)])), ((ndx 6), .inl (cI, 8, .inl (upd (fun _ => 0) 0 0))), ((ndx 7), .inr (0, [.ref (ndx 8)])), ((ndx 8), .inl (cI, 8, .inl (upd (fun _ => 0) 0 1))), ((ndx 9), .inr (0, [.ref (ndx 10)])), ((ndx 10), .inl (cI, 8, .inl (upd (fun _ => 0) 0 0))), ((ndx 11), .inr (9, [.ref (ndx 12), .ref (ndx 14), .ref (ndx 16), .ref (ndx 18), .ref (ndx 20), .ref (ndx 22), .ref (ndx 23)])), ((ndx 12), .inr (7, [.int 2, .int 5, .ref (ndx 13), .int 0])), ((ndx 13), .inl (cI, 10, .inl (fun _ => 0))), ((ndx 14), .inr (7, [.int 3, .int 16, .ref (ndx 15), .int 0])), ((ndx 15), .inl (cI, 48, .inl (fun _ => 0))), ((ndx 16), .inr (7, [.int 3, .int 8, .ref (ndx 17), .int 0])), ((ndx 17), .inl (cI, 24, .inl (fun _ => 0))), ((ndx 18), .inr (7, [.int 2, .int 10, .ref (ndx 19), .int 0])), ((ndx 19), .inl (cI, 20, .inl (fun _ => 0))), ((ndx 20), .inr (7, [.int 1, .int 40, .ref (ndx 21), .int 0])), ((ndx 21), .inl (cI, 40, .inl (fun _ => 0))), ((ndx 22), .inl (cI, 3, .inl (upd (upd (upd (fun _ => 0) 0 1) 1 0) 2 60))), ((ndx 23), .inl (cI, 5, .inl (fun _ => 0))), ((ndx 24), .inr (9, [.ref (ndx 25), .ref (ndx 27), .ref (ndx 29), .ref (ndx 31), .ref (ndx 33), .ref (ndx 35), .ref (ndx 36)])), ((ndx 25), .inr (7, [.int 2, .int 5, .ref (ndx 26), .int 0])), ((ndx 26), .inl (cI, 10, .inl (fun _ => 0))), ((ndx 27), .inr (7, [.int 3, .int 16, .ref (ndx 28), .int 0])), ((ndx 28), .inl (cI, 48, .inl (fun _ => 0))), ((ndx 29), .inr (7, [.int 3, .int 8, .ref (ndx 30), .int 0])), ((ndx 30), .inl (cI, 24, .inl (fun _ => 0))), ((ndx 31), .inr (7, [.int 2, .int 10, .ref (ndx 32), .int 0])), ((ndx 32), .inl (cI, 20, .inl (fun _ => 0))), ((ndx 33), .inr (7, [.int 1, .int 40, .ref (ndx 34), .int 0])), ((ndx 34), .inl (cI, 40, .inl (fun _ => 0))), ((ndx 35), .inl (cI, 3, .inl (upd (upd (upd (fun _ => 0) 0 1) 1 0) 2 60))), ((ndx 36), .inl (cI, 5, .inl (fun _ => 0))), ((ndx 37), .inl (cZ, 2, .inl (fun _ => 0))), ((ndx 38), .inl (cI, 3, .inl (fun _ => 0))), ((ndx 39), .inr (9, [.ref (ndx 40), .ref (ndx 42), .ref (ndx 44), .ref (ndx 46), .ref (ndx 48), .ref (ndx 50), .ref (ndx 51)])), ((ndx 40), .inr (7, [.int 2, .int 5, .ref (ndx 41), .int 0])), ((ndx 41), .inl (cI, 10, .inl (fun _ => 0))), ((ndx 42), .inr (7, [.int 3, .int 16, .ref (ndx 43), .int 0])), ((ndx 43), .inl (cI, 48, .inl (fun _ => 0))), ((ndx 44), .inr (7, [.int 3, .int 8, .ref (ndx 45), .int 0])), ((ndx 45), .inl (cI, 24, .inl (fun _ => 0))), ((ndx 46), .inr (7, [.int 2, .int 10, .ref (ndx 47), .int 0])), ((ndx 47), .inl (cI, 20, .inl (fun _ => 0))), ((ndx 48), .inr (7, [.int 1, .int 40, .ref (ndx 49), .int 0])), ((ndx 49), .inl (cI, 40, .inl (fun _ => 0))), ((ndx 50), .inl (cI, 3, .inl (upd (upd (upd (fun _ => 0) 0 1) 1 0) 2 60))), ((ndx 51), .inl (cI, 5, .inl (fun _ => 0))), ((ndx 52), .inr (9, [.ref (ndx 53), .ref (ndx 55), .ref (ndx 57), .ref (ndx 59), .ref (ndx 61), .ref (ndx 63), .ref (ndx 64)])), ((ndx 53), .inr (7, [.int 2, .int 5, .ref (ndx 54), .int 0])), ((ndx 54), .inl (cI, 10, .inl (fun _ => 0))), ((ndx 55), .inr (7, [.int 3, .int 16, .ref (ndx 56), .int 0])), ((ndx 56), .inl (cI, 48, .inl (fun _ => 0))), ((ndx 57), .inr (7, [.int 3, .int 8, .ref (ndx 58), .int 0])), ((ndx 58), .inl (cI, 24, .inl (fun _ => 0))), ((ndx 59), .inr (7, [.int 2, .int 10, .ref (ndx 60), .int 0])), ((ndx 60), .inl (cI, 20, .inl (fun _ => 0))), ((ndx 61), .inr (7, [.int 1, .int 40, .ref (ndx 62), .int 0])), ((ndx 62), .inl (cI, 40, .inl (fun _ => 0))), ((ndx 63), .inl (cI, 3, .inl (upd (upd (upd (fun _ => 0) 0 1) 1 0) 2 60))), ((ndx 64), .inl (cI, 5, .inl (fun _ => 0))), ((ndx 65), .inr (7, [.int 1, .int 250, .ref (ndx 66), .int 0])), ((ndx 66), .inl (cI, 250, .inl (fun _ => 0))), ((ndx 67), .inr (8, [.ref (ndx 39), .ref (ndx 68), .ref (ndx 69), .ref (ndx 70), .int 0, .int 0, .int 0, .int 1])), ((ndx 68), .inl (cI, 40, .inl (fun _ => 0))), ((ndx 69), .inl (cJ, 40, .inr (.inl (fun _ => 0)))), ((ndx 70), .inl (cI, 6, .inl (fun _ => 0))), ((ndx 71), .inr (1, [.ref (ndx 39), .ref (ndx 67), .ref (ndx 72), .ref (ndx 73), .int 1])), ((ndx 72), .inl (cI, 240, .inl (fun _ => 0))), ((ndx 73), .inl (cA, 2, .inr (.inr (.inr (.inr (zg2 (some (ndx 74)) (some (ndx 75)))))))), ((ndx 74), .inl (cI, 241, .inl (fun _ => 0))), ((ndx 75), .inl (cI, 241, .inl (fun _ => 0))), ((ndx 76), .inr (6, [.ref (ndx 65), .ref (ndx 52), .ref (ndx 77), .int 0, .int 0, .int 0, .int 0])), ((ndx 77), .inl (cI, 3, .inl (fun _ => 0))), ((ndx 78), .inr (4, [.ref (ndx 39), .ref (ndx 79), .ref (ndx 80), .int 0, .int 1])), ((ndx 79), .inl (cI, 100, .inl (fun _ => 0))), ((ndx 80), .inl (cJ, 495, .inr (.inl (fun _ => 0)))), ((ndx 81), .inr (3, [.ref (ndx 39), .ref (ndx 71), .ref (ndx 82), .int 0, .int 0, .int 0, .int 1])), ((ndx 82), .inl (cI, 241, .inl (fun _ => 0))), (qm, .inr (11, [.null, .null, .null, .null, .int 0, .int 0, .int 0, .int 0, .null, .null, .null, .int 0, .int 0, .int 0, .long 0, .null, .int 0, .null, .int 0, .null, .null, .int 0, .null, .null, .null, .null, .null, .null, .null, .null, .null]))] := hD
  refine lv_dup hx hbc dL_law_11 rfl ?_
  refine zcallK (rest := [.ref qm]) S (k_X11_init l D cI cJ cZ cA ga qm) (zgI zw_147) rfl (List.mem_cons_of_mem _ zw_5) (List.mem_cons_of_mem _ zw_145) (List.mem_cons_of_mem _ zw_146) rfl hdk_X11_init ⟨rfl, rfl⟩ ⟨(Nat.le_of_ble_eq_true rfl), (Nat.le_of_ble_eq_true rfl)⟩ rfl hl.1 rfl (Nat.le_of_ble_eq_true rfl) dL_law_12 hP hD hS hA hK hG (isC := [84]) (isR := [0, 1, 2, 3, 4, 5, 6, 7, 8, 9, 10, 11, 12, 13, 14, 15, 16, 17, 18, 19, 20, 21, 22, 23, 24, 25, 26, 27, 28, 29, 30, 31, 32, 33, 34, 35, 36, 37, 38, 39, 40, 41, 42, 43, 44, 45, 46, 47, 48, 49, 50, 51, 52, 53, 54, 55, 56, 57, 58, 59, 60, 61, 62, 63, 64, 65, 66, 67, 68, 69, 70, 71, 72, 73, 74, 75, 76, 77, 78, 79, 80, 81, 82, 83]) rfl (by decide +kernel) (wr := [(qx, .inr (10, [.ref (ndx 39), .ref (ndx 52), .ref (ndx 65), .ref (ndx 76), .ref (ndx 67), .ref (ndx 71), .ref (ndx 78), .ref (ndx 81), .ref (ndx 0), .ref (ndx 4), .ref (ndx 11), .ref (ndx 24), .ref (ndx 37), .ref (ndx 38)])), ((ndx 0), .inr (5, [.ref (ndx 1), .ref (ndx 2), .ref (ndx 3), .int 0, .int 0])), ((ndx 1), .inl (cI, 21, .inl (fun _ => 0))), ((ndx 2), .inl (cI, 21, .inl (fun _ => 0))), ((ndx 3), .inl (cI, 40, .inl (fun _ => 0))), ((ndx 4), .inr (2, [.ref (ndx 5), .ref (ndx 7), .ref (ndx 9)])), ((ndx 5), .inr (0, [.ref (ndx 6)])), ((ndx 6), .inl (cI, 8, .inl (upd (fun _ => 0) 0 0))), ((ndx 7), .inr (0, [.ref (ndx 8)])), ((ndx 8), .inl (cI, 8, .inl (upd (fun _ => 0) 0 1))), ((ndx 9), .inr (0, [.ref (ndx 10)])), ((ndx 10), .inl (cI, 8, .inl (upd (fun _ => 0) 0 0))), ((ndx 11), .inr (9, [.ref (ndx 12), .ref (ndx 14), .ref (ndx 16), .ref (ndx 18), .ref (ndx 20), .ref (ndx 22), .ref (ndx 23)])), ((ndx 12), .inr (7, [.int 2, .int 5, .ref (ndx 13), .int 0])), ((ndx 13), .inl (cI, 10, .inl (fun _ => 0))), ((ndx 14), .inr (7, [.int 3, .int 16, .ref (ndx 15), .int 0])), ((ndx 15), .inl (cI, 48, .inl (fun _ => 0))), ((ndx 16), .inr (7, [.int 3, .int 8, .ref (ndx 17), .int 0])), ((ndx 17), .inl (cI, 24, .inl (fun _ => 0))), ((ndx 18), .inr (7, [.int 2, .int 10, .ref (ndx 19), .int 0])), ((ndx 19), .inl (cI, 20, .inl (fun _ => 0))), ((ndx 20), .inr (7, [.int 1, .int 40, .ref (ndx 21), .int 0])), ((ndx 21), .inl (cI, 40, .inl (fun _ => 0))), ((ndx 22), .inl (cI, 3, .inl (upd (upd (upd (fun _ => 0) 0 1) 1 0) 2 60))), ((ndx 23), .inl (cI, 5, .inl (fun _ => 0))), ((ndx 24), .inr (9, [.ref (ndx 25), .ref (ndx 27), .ref (ndx 29), .ref (ndx 31), .ref (ndx 33), .ref (ndx 35), .ref (ndx 36)])), ((ndx 25), .inr (7, [.int 2, .int 5, .ref (ndx 26), .int 0])), ((ndx 26), .inl (cI, 10, .inl (fun _ => 0))), ((ndx 27), .inr (7, [.int 3, .int 16, .ref (ndx 28), .int 0])), ((ndx 28), .inl (cI, 48, .inl (fun _ => 0))), ((ndx 29), .inr (7, [.int 3, .int 8, .ref (ndx 30), .int 0])), ((ndx 30), .inl (cI, 24, .inl (fun _ => 0))), ((ndx 31), .inr (7, [.int 2, .int 10, .ref (ndx 32), .int 0])), ((ndx 32), .inl (cI, 20, .inl (fun _ => 0))), ((ndx 33), .inr (7, [.int 1, .int 40, .ref (ndx 34), .int 0])), ((ndx 34), .inl (cI, 40, .inl (fun _ => 0))), ((ndx 35), .inl (cI, 3, .inl (upd (upd (upd (fun _ => 0) 0 1) 1 0) 2 60))), ((ndx 36), .inl (cI, 5, .inl (fun _ => 0))), ((ndx 37), .inl (cZ, 2, .inl (fun _ => 0))), ((ndx 38), .inl (cI, 3, .inl (fun _ => 0))), ((ndx 39), .inr (9, [.ref (ndx 40), .ref (ndx 42), .ref (ndx 44), .ref (ndx 46), .ref (ndx 48), .ref (ndx 50), .ref (ndx 51)])), ((ndx 40), .inr (7, [.int 2, .int 5, .ref (ndx 41), .int 0])), ((ndx 41), .inl (cI, 10, .inl (fun _ => 0))), ((ndx 42), .inr (7, [.int 3, .int 16, .ref (ndx 43), .int 0])), ((ndx 43), .inl (cI, 48, .inl (fun _ => 0))), ((ndx 44), .inr (7, [.int 3, .int 8, .ref (ndx 45), .int 0])), ((ndx 45), .inl (cI, 24, .inl (fun _ => 0))), ((ndx 46), .inr (7, [.int 2, .int 10, .ref (ndx 47), .int 0])), ((ndx 47), .inl (cI, 20, .inl (fun _ => 0))), ((ndx 48), .inr (7, [.int 1, .int 40, .ref (ndx 49), .int 0])), ((ndx 49), .inl (cI, 40, .inl (fun _ => 0))), ((ndx 50), .inl (cI, 3, .inl (upd (upd (upd (fun _ => 0) 0 1) 1 0) 2 60))), ((ndx 51), .inl (cI, 5, .inl (fun _ => 0))), ((ndx 52), .inr (9, [.ref (ndx 53), .ref (ndx 55), .ref (ndx 57), .ref (ndx 59), .ref (ndx 61), .ref (ndx 63), .ref (ndx 64)])), ((ndx 53), .inr (7, [.int 2, .int 5, .ref (ndx 54), .int 0])), ((ndx 54), .inl (cI, 10, .inl (fun _ => 0))), ((ndx 55), .inr (7, [.int 3, .int 16, .ref (ndx 56), .int 0])), ((ndx 56), .inl (cI, 48, .inl (fun _ => 0))), ((ndx 57), .inr (7, [.int 3, .int 8, .ref (ndx 58), .int 0])), ((ndx 58), .inl (cI, 24, .inl (fun _ => 0))), ((ndx 59), .inr (7, [.int 2, .int 10, .ref (ndx 60), .int 0])), ((ndx 60), .inl (cI, 20, .inl (fun _ => 0))), ((ndx 61), .inr (7, [.int 1, .int 40, .ref (ndx 62), .int 0])), ((ndx 62), .inl (cI, 40, .inl (fun _ => 0))), ((ndx 63), .inl (cI, 3, .inl (upd (upd (upd (fun _ => 0) 0 1) 1 0) 2 60))), ((ndx 64), .inl (cI, 5, .inl (fun _ => 0))), ((ndx 65), .inr (7, [.int 1, .int 250, .ref (ndx 66), .int 0])), ((ndx 66), .inl (cI, 250, .inl (fun _ => 0))), ((ndx 67), .inr (8, [.ref (ndx 39), .ref (ndx 68), .ref (ndx 69), .ref (ndx 70), .int 0, .int 0, .int 0, .int 1])), ((ndx 68), .inl (cI, 40, .inl (fun _ => 0))), ((ndx 69), .inl (cJ, 40, .inr (.inl (fun _ => 0)))), ((ndx 70), .inl (cI, 6, .inl (fun _ => 0))), ((ndx 71), .inr (1, [.ref (ndx 39), .ref (ndx 67), .ref (ndx 72), .ref (ndx 73), .int 1])), ((ndx 72), .inl (cI, 240, .inl (fun _ => 0))), ((ndx 73), .inl (cA, 2, .inr (.inr (.inr (.inr (zg2 (some (ndx 74)) (some (ndx 75)))))))), ((ndx 74), .inl (cI, 241, .inl (fun _ => 0))), ((ndx 75), .inl (cI, 241, .inl (fun _ => 0))), ((ndx 76), .inr (6, [.ref (ndx 65), .ref (ndx 52), .ref (ndx 77), .int 0, .int 0, .int 0, .int 0])), ((ndx 77), .inl (cI, 3, .inl (fun _ => 0))), ((ndx 78), .inr (4, [.ref (ndx 39), .ref (ndx 79), .ref (ndx 80), .int 0, .int 1])), ((ndx 79), .inl (cI, 100, .inl (fun _ => 0))), ((ndx 80), .inl (cJ, 495, .inr (.inl (fun _ => 0)))), ((ndx 81), .inr (3, [.ref (ndx 39), .ref (ndx 71), .ref (ndx 82), .int 0, .int 0, .int 0, .int 1])), ((ndx 82), .inl (cI, 241, .inl (fun _ => 0)))]) rfl (by decide +kernel) (by decide +kernel) ⟨(Nat.le_of_ble_eq_true rfl), (Nat.le_of_ble_eq_true rfl)⟩ (fun ndm H locs hP hD hS => ?_)
  have hP : va_P D vwCl [(qx, .inr (10, [.ref (ndx 39), .ref (ndx 52), .ref (ndx 65), .ref (ndx 76), .ref (ndx 67), .ref (ndx 71), .ref (ndx 78), .ref (ndx 81), .ref (ndx 0), .ref (ndx 4), .ref (ndx 11), .ref (ndx 24), .ref (ndx 37), .ref (ndx 38)])), ((ndx 0), .inr (5, [.ref (ndx 1), .ref (ndx 2), .ref (ndx 3), .int 0, .int 0])), ((ndx 1), .inl (cI, 21, .inl (fun _ => 0))), ((ndx 2), .inl (cI, 21, .inl (fun _ => 0))), ((ndx 3), .inl (cI, 40, .inl (fun _ => 0))), ((ndx 4), .inr (2, [.ref (ndx 5), .ref (ndx 7), .ref (ndx 9)])), ((ndx 5), .inr (0, [.ref (ndx 6)])), ((ndx 6), .inl (cI, 8, .inl (upd (fun _ => 0) 0 0))), ((ndx 7), .inr (0, [.ref (ndx 8)])), ((ndx 8), .inl (cI, 8, .inl (upd (fun _ => 0) 0 1))), ((ndx 9), .inr (0, [.ref (ndx 10)])), ((ndx 10), .inl (cI, 8, .inl (upd (fun _ => 0) 0 0))), ((ndx 11), .inr (9, [.ref (ndx 12), .ref (ndx 14), .ref (ndx 16), .ref (ndx 18), .ref (ndx 20), .ref (ndx 22), .ref (ndx 23)])), ((ndx 12), .inr (7, [.int 2, .int 5, .ref (ndx 13), .int 0])), ((ndx 13), .inl (cI, 10, .inl (fun _ => 0))), ((ndx 14), .inr (7, [.int 3, .int 16, .ref (ndx 15), .int 0])), ((ndx 15), .inl (cI, 48, .inl (fun _ => 0))), ((ndx 16), .inr (7, [.int 3, .int 8, .ref (ndx 17), .int 0])), ((ndx 17), .inl (cI, 24, .inl (fun _ => 0))), ((ndx 18), .inr (7, [.int 2, .int 10, .ref (ndx 19), .int 0])), ((ndx 19), .inl (cI, 20, .inl (fun _ => 0))), ((ndx 20), .inr (7, [.int 1, .int 40, .ref (ndx 21), .int 0])), ((ndx 21), .inl (cI, 40, .inl (fun _ => 0))), ((ndx 22), .inl (cI, 3, .inl (upd (upd (upd (fun _ => 0) 0 1) 1 0) 2 60))), ((ndx 23), .inl (cI, 5, .inl (fun _ => 0))), ((ndx 24), .inr (9, [.ref (ndx 25), .ref (ndx 27), .ref (ndx 29), .ref (ndx 31), .ref (ndx 33), .ref (ndx 35), .ref (ndx 36)])), ((ndx 25), .inr (7, [.int 2, .int 5, .ref (ndx 26), .int 0])), ((ndx 26), .inl (cI, 10, .inl (fun _ => 0))), ((ndx 27), .inr (7, [.int 3, .int 16, .ref (ndx 28), .int 0])), ((ndx 28), .inl (cI, 48, .inl (fun _ => 0))), ((ndx 29), .inr (7, [.int 3, .int 8, .ref (ndx 30), .int 0])), ((ndx 30), .inl (cI, 24, .inl (fun _ => 0))), ((ndx 31), .inr (7, [.int 2, .int 10, .ref (ndx 32), .int 0])), ((ndx 32), .inl (cI, 20, .inl (fun _ => 0))), ((ndx 33), .inr (7, [.int 1, .int 40, .ref (ndx 34), .int 0])), ((ndx 34), .inl (cI, 40, .inl (fun _ => 0))), ((ndx 35), .inl (cI, 3, .inl (upd (upd (upd (fun _ => 0) 0 1) 1 0) 2 60))), ((ndx 36), .inl (cI, 5, .inl (fun _ => 0))), ((ndx 37), .inl (cZ, 2, .inl (fun _ => 0))), ((ndx 38), .inl (cI, 3, .inl (fun _ => 0))), ((ndx 39), .inr (9, [.ref (ndx 40), .ref (ndx 42), .ref (ndx 44), .ref (ndx 46), .ref (ndx 48), .ref (ndx 50), .ref (ndx 51)])), ((ndx 40), .inr (7, [.int 2, .int 5, .ref (ndx 41), .int 0])), ((ndx 41), .inl (cI, 10, .inl (fun _ => 0))), ((ndx 42), .inr (7, [.int 3, .int 16, .ref (ndx 43), .int 0])), ((ndx 43), .inl (cI, 48, .inl (fun _ => 0))), ((ndx 44), .inr (7, [.int 3, .int 8, .ref (ndx 45), .int 0])), ((ndx 45), .inl (cI, 24, .inl (fun _ => 0))), ((ndx 46), .inr (7, [.int 2, .int 10, .ref (ndx 47), .int 0])), ((ndx 47), .inl (cI, 20, .inl (fun _ => 0))), ((ndx 48), .inr (7, [.int 1, .int 40, .ref (ndx 49), .int 0])), ((ndx 49), .inl (cI, 40, .inl (fun _ => 0))), ((ndx 50), .inl (cI, 3, .inl (upd (upd (upd (fun _ => 0) 0 1) 1 0) 2 60))), ((ndx 51), .inl (cI, 5, .inl (fun _ => 0))), ((ndx 52), .inr (9, [.ref (ndx 53), .ref (ndx 55), .ref (ndx 57), .ref (ndx 59), .ref (ndx 61), .ref (ndx 63), .ref (ndx 64)])), ((ndx 53), .inr (7, [.int 2, .int 5, .ref (ndx 54), .int 0])), ((ndx 54), .inl (cI, 10, .inl (fun _ => 0))), ((ndx 55), .inr (7, [.int 3, .int 16, .ref (ndx 56), .int 0])), ((ndx 56), .inl (cI, 48, .inl (fun _ => 0))), ((ndx 57), .inr (7, [.int 3, .int 8, .ref (ndx 58), .int 0])), ((ndx 58), .inl (cI, 24, .inl (fun _ => 0))), ((ndx 59), .inr (7, [.int 2, .int 10, .ref (ndx 60), .int 0])), ((ndx 60), .inl (cI, 20, .inl (fun _ => 0))), ((ndx 61), .inr (7, [.int 1, .int 40, .ref (ndx 62), .int 0])), ((ndx 62), .inl (cI, 40, .inl (fun _ => 0))), ((ndx 63), .inl (cI, 3, .inl (upd (upd (upd (fun _ => 0) 0 1) 1 0) 2 60))), ((ndx 64), .inl (cI, 5, .inl (fun _ => 0))), ((ndx 65), .inr (7, [.int 1, .int 250, .ref (ndx 66), .int 0])), ((ndx 66), .inl (cI, 250, .inl (fun _ => 0))), ((ndx 67), .inr (8, [.ref (ndx 39), .ref (ndx 68), .ref (ndx 69), .ref (ndx 70), .int 0, .int 0, .int 0, .int 1])), ((ndx 68), .inl (cI, 40, .inl (fun _ => 0))), ((ndx 69), .inl (cJ, 40, .inr (.inl (fun _ => 0)))), ((ndx 70), .inl (cI, 6, .inl (fun _ => 0))), ((ndx 71), .inr (1, [.ref (ndx 39), .ref (ndx 67), .ref (ndx 72), .ref (ndx 73), .int 1])), ((ndx 72), .inl (cI, 240, .inl (fun _ => 0))), ((ndx 73), .inl (cA, 2, .inr (.inr (.inr (.inr (zg2 (some (ndx 74)) (some (ndx 75)))))))), ((ndx 74), .inl (cI, 241, .inl (fun _ => 0))), ((ndx 75), .inl (cI, 241, .inl (fun _ => 0))), ((ndx 76), .inr (6, [.ref (ndx 65), .ref (ndx 52), .ref (ndx 77), .int 0, .int 0, .int 0, .int 0])), ((ndx 77), .inl (cI, 3, .inl (fun _ => 0))), ((ndx 78), .inr (4, [.ref (ndx 39), .ref (ndx 79), .ref (ndx 80), .int 0, .int 1])), ((ndx 79), .inl (cI, 100, .inl (fun _ => 0))), ((ndx 80), .inl (cJ, 495, .inr (.inl (fun _ => 0)))), ((ndx 81), .inr (3, [.ref (ndx 39), .ref (ndx 71), .ref (ndx 82), .int 0, .int 0, .int 0, .int 1])), ((ndx 82), .inl (cI, 241, .inl (fun _ => 0))), (qm, .inr (11, [.ref (ndm 0), .ref (ndm 1), .ref (ndm 2), .ref (ndm 3), .int 0, .int 0, .int 0, .int 1, .ref (ndm 4), .ref (ndm 5), .ref (ndm 6), .int 0, .int 0, .int 0, .long 0, .ref (ndm 7), .int 0, .ref (ndm 8), .int 0, .ref (ndm 9), .ref (ndm 10), .int 0, .ref (ndm 11), .ref (ndm 12), .ref (ndm 13), .ref (ndm 14), .ref (ndm 15), .ref (ndm 16), .ref (ndm 17), .ref (ndm 18), .ref (ndm 19)])), ((ndm 0), .inl (cI, 155, .inl (upd (upd (fun _ => 0) 0 1) 2 60))), ((ndm 1), .inl (cI, 310, .inl (fun _ => 0))), ((ndm 2), .inl (cZ, 2, .inl (fun _ => 0))), ((ndm 3), .inl (cI, 250, .inl (fun _ => 0))), ((ndm 4), .inl (cI, 8, .inl (fun _ => 0))), ((ndm 5), .inl (cI, 8, .inl (upd (fun _ => 0) 0 1))), ((ndm 6), .inl (cI, 3, .inl (fun _ => 0))), ((ndm 7), .inl (cI, 155, .inl (fun _ => 0))), ((ndm 8), .inl (cI, 80, .inl (fun _ => 0))), ((ndm 9), .inl (cI, 80, .inl (fun _ => 0))), ((ndm 10), .inl (cZ, 9, .inl (fun _ => 0))), ((ndm 11), .inl (cJ, 41, .inr (.inl (fun _ => 0)))), ((ndm 12), .inl (cI, 482, .inl (fun _ => 0))), ((ndm 13), .inl (cI, 1200, .inl (fun _ => 0))), ((ndm 14), .inl (cZ, 1200, .inl (fun _ => 0))), ((ndm 15), .inl (cI, 10000, .inl (fun _ => 0))), ((ndm 16), .inl (cI, 861, .inl (fun _ => 0))), ((ndm 17), .inl (cI, 861, .inl (fun _ => 0))), ((ndm 18), .inl (cZ, 861, .inl (fun _ => 0))), ((ndm 19), .inl (cJ, 512, .inr (.inl (fun _ => 0))))] H := hP
  have hD : va_D (fun q => s.heap.size ≤ q) [(qx, .inr (10, [.ref (ndx 39), .ref (ndx 52), .ref (ndx 65), .ref (ndx 76), .ref (ndx 67), .ref (ndx 71), .ref (ndx 78), .ref (ndx 81), .ref (ndx 0), .ref (ndx 4), .ref (ndx 11), .ref (ndx 24), .ref (ndx 37), .ref (ndx 38)])), ((ndx 0), .inr (5, [.ref (ndx 1), .ref (ndx 2), .ref (ndx 3), .int 0, .int 0])), ((ndx 1), .inl (cI, 21, .inl (fun _ => 0))), ((ndx 2), .inl (cI, 21, .inl (fun _ => 0))), ((ndx 3), .inl (cI, 40, .inl (fun _ => 0))), ((ndx 4), .inr (2, [.ref (ndx 5), .ref (ndx 7), .ref (ndx 9)])), ((ndx 5), .inr (0, [.ref (ndx 6)])), ((ndx 6), .inl (cI, 8, .inl (upd (fun _ => 0) 0 0))), ((ndx 7), .inr (0, [.ref (ndx 8)])), ((ndx 8), .inl (cI, 8, .inl (upd (fun _ => 0) 0 1))), ((ndx 9), .inr (0, [.ref (ndx 10)])), ((ndx 10), .inl (cI, 8, .inl (upd (fun _ => 0) 0 0))), ((ndx 11), .inr (9, [.ref (ndx 12), .ref (ndx 14), .ref (ndx 16), .ref (ndx 18), .ref (ndx 20), .ref (ndx 22), .ref (ndx 23)])), ((ndx 12), .inr (7, [.int 2, .int 5, .ref (ndx 13), .int 0])), ((ndx 13), .inl (cI, 10, .inl (fun _ => 0))), ((ndx 14), .inr (7, [.int 3, .int 16, .ref (ndx 15), .int 0])), ((ndx 15), .inl (cI, 48, .inl (fun _ => 0))), ((ndx 16), .inr (7, [.int 3, .int 8, .ref (ndx 17), .int 0])), ((ndx 17), .inl (cI, 24, .inl (fun _ => 0))), ((ndx 18), .inr (7, [.int 2, .int 10, .ref (ndx 19), .int 0])), ((ndx 19), .inl (cI, 20, .inl (fun _ => 0))), ((ndx 20), .inr (7, [.int 1, .int 40, .ref (ndx 21), .int 0])), ((ndx 21), .inl (cI, 40, .inl (fun _ => 0))), ((ndx 22), .inl (cI, 3, .inl (upd (upd (upd (fun _ => 0) 0 1) 1 0) 2 60))), ((ndx 23), .inl (cI, 5, .inl (fun _ => 0))), ((ndx 24), .inr (9, [.ref (ndx 25), .ref (ndx 27), .ref (ndx 29), .ref (ndx 31), .ref (ndx 33), .ref (ndx 35), .ref (ndx 36)])), ((ndx 25), .inr (7, [.int 2, .int 5, .ref (ndx 26), .int 0])), ((ndx 26), .inl (cI, 10, .inl (fun _ => 0))), ((ndx 27), .inr (7, [.int 3, .int 16, .ref (ndx 28), .int 0])), ((ndx 28), .inl (cI, 48, .inl (fun _ => 0))), ((ndx 29), .inr (7, [.int 3, .int 8, .ref (ndx 30), .int 0])), ((ndx 30), .inl (cI, 24, .inl (fun _ => 0))), ((ndx 31), .inr (7, [.int 2, .int 10, .ref (ndx 32), .int 0])), ((ndx 32), .inl (cI, 20, .inl (fun _ => 0))), ((ndx 33), .inr (7, [.int 1, .int 40, .ref (ndx 34), .int 0])), ((ndx 34), .inl (cI, 40, .inl (fun _ => 0))), ((ndx 35), .inl (cI, 3, .inl (upd (upd (upd (fun _ => 0) 0 1) 1 0) 2 60))), ((ndx 36), .inl (cI, 5, .inl (fun _ => 0))), ((ndx 37), .inl (cZ, 2, .inl (fun _ => 0))), ((ndx 38), .inl (cI, 3, .inl (fun _ => 0))), ((ndx 39), .inr (9, [.ref (ndx 40), .ref (ndx 42), .ref (ndx 44), .ref (ndx 46), .ref (ndx 48), .ref (ndx 50), .ref (ndx 51)])), ((ndx 40), .inr (7, [.int 2, .int 5, .ref (ndx 41), .int 0])), ((ndx 41), .inl (cI, 10, .inl (fun _ => 0))), ((ndx 42), .inr (7, [.int 3, .int 16, .ref (ndx 43), .int 0])), ((ndx 43), .inl (cI, 48, .inl (fun _ => 0))), ((ndx 44), .inr (7, [.int 3, .int 8, .ref (ndx 45), .int 0])), ((ndx 45), .inl (cI, 24, .inl (fun _ => 0))), ((ndx 46), .inr (7, [.int 2, .int 10, .ref (ndx 47), .int 0])), ((ndx 47), .inl (cI, 20, .inl (fun _ => 0))), ((ndx 48), .inr (7, [.int 1, .int 40, .ref (ndx 49), .int 0])), ((ndx 49), .inl (cI, 40, .inl (fun _ => 0))), ((ndx 50), .inl (cI, 3, .inl (upd (upd (upd (fun _ => 0) 0 1) 1 0) 2 60))), ((ndx 51), .inl (cI, 5, .inl (fun _ => 0))), ((ndx 52), .inr (9, [.ref (ndx 53), .ref (ndx 55), .ref (ndx 57), .ref (ndx 59), .ref (ndx 61), .ref (ndx 63), .ref (ndx 64)])), ((ndx 53), .inr (7, [.int 2, .int 5, .ref (ndx 54), .int 0])), ((ndx 54), .inl (cI, 10, .inl (fun _ => 0))), ((ndx 55), .inr (7, [.int 3, .int 16, .ref (ndx 56), .int 0])), ((ndx 56), .inl (cI, 48, .inl (fun _ => 0))), ((ndx 57), .inr (7, [.int 3, .int 8, .ref (ndx 58), .int 0])), ((ndx 58), .inl (cI, 24, .inl (fun _ => 0))), ((ndx 59), .inr (7, [.int 2, .int 10, .ref (ndx 60), .int 0])), ((ndx 60), .inl (cI, 20, .inl (fun _ => 0))), ((ndx 61), .inr (7, [.int 1, .int 40, .ref (ndx 62), .int 0])), ((ndx 62), .inl (cI, 40, .inl (fun _ => 0))), ((ndx 63), .inl (cI, 3, .inl (upd (upd (upd (fun _ => 0) 0 1) 1 0) 2 60))), ((ndx 64), .inl (cI, 5, .inl (fun _ => 0))), ((ndx 65), .inr (7, [.int 1, .int 250, .ref (ndx 66), .int 0])), ((ndx 66), .inl (cI, 250, .inl (fun _ => 0))), ((ndx 67), .inr (8, [.ref (ndx 39), .ref (ndx 68), .ref (ndx 69), .ref (ndx 70), .int 0, .int 0, .int 0, .int 1])), ((ndx 68), .inl (cI, 40, .inl (fun _ => 0))), ((ndx 69), .inl (cJ, 40, .inr (.inl (fun _ => 0)))), ((ndx 70), .inl (cI, 6, .inl (fun _ => 0))), ((ndx 71), .inr (1, [.ref (ndx 39), .ref (ndx 67), .ref (ndx 72), .ref (ndx 73), .int 1])), ((ndx 72), .inl (cI, 240, .inl (fun _ => 0))), ((ndx 73), .inl (cA, 2, .inr (.inr (.inr (.inr (zg2 (some (ndx 74)) (some (ndx 75)))))))), ((ndx 74), .inl (cI, 241, .inl (fun _ => 0))), ((ndx 75), .inl (cI, 241, .inl (fun _ => 0))), ((ndx 76), .inr (6, [.ref (ndx 65), .ref (ndx 52), .ref (ndx 77), .int 0, .int 0, .int 0, .int 0])), ((ndx 77), .inl (cI, 3, .inl (fun _ => 0))), ((ndx 78), .inr (4, [.ref (ndx 39), .ref (ndx 79), .ref (ndx 80), .int 0, .int 1])), ((ndx 79), .inl (cI, 100, .inl (fun _ => 0))), ((ndx 80), .inl (cJ, 495, .inr (.inl (fun _ => 0)))), ((ndx 81), .inr (3, [.ref (ndx 39), .ref (ndx 71), .ref (ndx 82), .int 0, .int 0, .int 0, .int 1])), ((ndx 82), .inl (cI, 241, .inl (fun _ => 0))), (qm, .inr (11, [.ref (ndm 0), .ref (ndm 1), .ref (ndm 2), .ref (ndm 3), .int 0, .int 0, .int 0, .int 1, .ref (ndm 4), .ref (ndm 5), .ref (ndm 6), .int 0, .int 0, .int 0, .long 0, .ref (ndm 7), .int 0, .ref (ndm 8), .int 0, .ref (ndm 9), .ref (ndm 10), .int 0, .ref (ndm 11), .ref (ndm 12), .ref (ndm 13), .ref (ndm 14), .ref (ndm 15), .ref (ndm 16), .ref (ndm 17), .ref (ndm 18), .ref (ndm 19)])), ((ndm 0), .inl (cI, 155, .inl (upd (upd (fun _ => 0) 0 1) 2 60))), ((ndm 1), .inl (cI, 310, .inl (fun _ => 0))), ((ndm 2), .inl (cZ, 2, .inl (fun _ => 0))), ((ndm 3), .inl (cI, 250, .inl (fun _ => 0))), ((ndm 4), .inl (cI, 8, .inl (fun _ => 0))), ((ndm 5), .inl (cI, 8, .inl (upd (fun _ => 0) 0 1))), ((ndm 6), .inl (cI, 3, .inl (fun _ => 0))), ((ndm 7), .inl (cI, 155, .inl (fun _ => 0))), ((ndm 8), .inl (cI, 80, .inl (fun _ => 0))), ((ndm 9), .inl (cI, 80, .inl (fun _ => 0))), ((ndm 10), .inl (cZ, 9, .inl (fun _ => 0))), ((ndm 11), .inl (cJ, 41, .inr (.inl (fun _ => 0)))), ((ndm 12), .inl (cI, 482, .inl (fun _ => 0))), ((ndm 13), .inl (cI, 1200, .inl (fun _ => 0))), ((ndm 14), .inl (cZ, 1200, .inl (fun _ => 0))), ((ndm 15), .inl (cI, 10000, .inl (fun _ => 0))), ((ndm 16), .inl (cI, 861, .inl (fun _ => 0))), ((ndm 17), .inl (cI, 861, .inl (fun _ => 0))), ((ndm 18), .inl (cZ, 861, .inl (fun _ => 0))), ((ndm 19), .inl (cJ, 512, .inr (.inl (fun _ => 0))))] := hD
  refine W.widen (k := 105) (n := 19888) (Nat.le_of_ble_eq_true rfl) (Nat.le_of_ble_eq_true rfl) ?_
  refine lv_astore_n (lv' := [(2, .ref qm), (1, .ref qx), (0, .ref b)]) hx hbc dL_law_15 rfl hl (by decide) rfl (fun ls hl => ?_)
  refine lv_iconst (v := 0) hx hbc dL_law_16 (by decide) ?_
  refine lv_istore_n (lv' := [(3, .int 0), (2, .ref qm), (1, .ref qx), (0, .ref b)]) hx hbc dL_law_17 rfl hl (by decide) rfl (fun ls hl => ?_)
  have hP : va_P D vwCl (wsL cI cJ cZ cA (fun k => [qx, (ndx 39), (ndx 40), (ndx 41), (ndx 42), (ndx 43), (ndx 44), (ndx 45), (ndx 46), (ndx 47), (ndx 48), (ndx 49), (ndx 50), (ndx 51), (ndx 52), (ndx 53), (ndx 54), (ndx 55), (ndx 56), (ndx 57), (ndx 58), (ndx 59), (ndx 60), (ndx 61), (ndx 62), (ndx 63), (ndx 64), (ndx 65), (ndx 66), (ndx 76), (ndx 77), (ndx 67), (ndx 68), (ndx 69), (ndx 70), (ndx 71), (ndx 72), (ndx 73), (ndx 74), (ndx 75), (ndx 78), (ndx 79), (ndx 80), (ndx 81), (ndx 82), (ndx 0), (ndx 1), (ndx 2), (ndx 3), (ndx 4), (ndx 5), (ndx 6), (ndx 7), (ndx 8), (ndx 9), (ndx 10), (ndx 11), (ndx 12), (ndx 13), (ndx 14), (ndx 15), (ndx 16), (ndx 17), (ndx 18), (ndx 19), (ndx 20), (ndx 21), (ndx 22), (ndx 23), (ndx 24), (ndx 25), (ndx 26), (ndx 27), (ndx 28), (ndx 29), (ndx 30), (ndx 31), (ndx 32), (ndx 33), (ndx 34), (ndx 35), (ndx 36), (ndx 37), (ndx 38), qm, (ndm 0), (ndm 1), (ndm 2), (ndm 3), (ndm 4), (ndm 5), (ndm 6), (ndm 7), (ndm 8), (ndm 9), (ndm 10), (ndm 11), (ndm 12), (ndm 13), (ndm 14), (ndm 15), (ndm 16), (ndm 17), (ndm 18), (ndm 19)].getD k 0) zI0 zA0 zJ0 0) H := hP.sub [0, 40, 41, 42, 43, 44, 45, 46, 47, 48, 49, 50, 51, 52, 53, 54, 55, 56, 57, 58, 59, 60, 61, 62, 63, 64, 65, 66, 67, 77, 78, 68, 69, 70, 71, 72, 73, 74, 75, 76, 79, 80, 81, 82, 83, 1, 2, 3, 4, 5, 6, 7, 8, 9, 10, 11, 12, 13, 14, 15, 16, 17, 18, 19, 20, 21, 22, 23, 24, 25, 26, 27, 28, 29, 30, 31, 32, 33, 34, 35, 36, 37, 38, 39, 84, 85, 86, 87, 88, 89, 90, 91, 92, 93, 94, 95, 96, 97, 98, 99, 100, 101, 102, 103, 104] rfl
  have hD : va_D (fun q => s.heap.size ≤ q) (wsL cI cJ cZ cA (fun k => [qx, (ndx 39), (ndx 40), (ndx 41), (ndx 42), (ndx 43), (ndx 44), (ndx 45), (ndx 46), (ndx 47), (ndx 48), (ndx 49), (ndx 50), (ndx 51), (ndx 52), (ndx 53), (ndx 54), (ndx 55), (ndx 56), (ndx 57), (ndx 58), (ndx 59), (ndx 60), (ndx 61), (ndx 62), (ndx 63), (ndx 64), (ndx 65), (ndx 66), (ndx 76), (ndx 77), (ndx 67), (ndx 68), (ndx 69), (ndx 70), (ndx 71), (ndx 72), (ndx 73), (ndx 74), (ndx 75), (ndx 78), (ndx 79), (ndx 80), (ndx 81), (ndx 82), (ndx 0), (ndx 1), (ndx 2), (ndx 3), (ndx 4), (ndx 5), (ndx 6), (ndx 7), (ndx 8), (ndx 9), (ndx 10), (ndx 11), (ndx 12), (ndx 13), (ndx 14), (ndx 15), (ndx 16), (ndx 17), (ndx 18), (ndx 19), (ndx 20), (ndx 21), (ndx 22), (ndx 23), (ndx 24), (ndx 25), (ndx 26), (ndx 27), (ndx 28), (ndx 29), (ndx 30), (ndx 31), (ndx 32), (ndx 33), (ndx 34), (ndx 35), (ndx 36), (ndx 37), (ndx 38), qm, (ndm 0), (ndm 1), (ndm 2), (ndm 3), (ndm 4), (ndm 5), (ndm 6), (ndm 7), (ndm 8), (ndm 9), (ndm 10), (ndm 11), (ndm 12), (ndm 13), (ndm 14), (ndm 15), (ndm 16), (ndm 17), (ndm 18), (ndm 19)].getD k 0) zI0 zA0 zJ0 0) := hD.sub [0, 40, 41, 42, 43, 44, 45, 46, 47, 48, 49, 50, 51, 52, 53, 54, 55, 56, 57, 58, 59, 60, 61, 62, 63, 64, 65, 66, 67, 77, 78, 68, 69, 70, 71, 72, 73, 74, 75, 76, 79, 80, 81, 82, 83, 1, 2, 3, 4, 5, 6, 7, 8, 9, 10, 11, 12, 13, 14, 15, 16, 17, 18, 19, 20, 21, 22, 23, 24, 25, 26, 27, 28, 29, 30, 31, 32, 33, 34, 35, 36, 37, 38, 39, 84, 85, 86, 87, 88, 89, 90, 91, 92, 93, 94, 95, 96, 97, 98, 99, 100, 101, 102, 103, 104] (by decide +kernel) rfl
  refine zl_loop (ad := fun k => [qx, (ndx 39), (ndx 40), (ndx 41), (ndx 42), (ndx 43), (ndx 44), (ndx 45), (ndx 46), (ndx 47), (ndx 48), (ndx 49), (ndx 50), (ndx 51), (ndx 52), (ndx 53), (ndx 54), (ndx 55), (ndx 56), (ndx 57), (ndx 58), (ndx 59), (ndx 60), (ndx 61), (ndx 62), (ndx 63), (ndx 64), (ndx 65), (ndx 66), (ndx 76), (ndx 77), (ndx 67), (ndx 68), (ndx 69), (ndx 70), (ndx 71), (ndx 72), (ndx 73), (ndx 74), (ndx 75), (ndx 78), (ndx 79), (ndx 80), (ndx 81), (ndx 82), (ndx 0), (ndx 1), (ndx 2), (ndx 3), (ndx 4), (ndx 5), (ndx 6), (ndx 7), (ndx 8), (ndx 9), (ndx 10), (ndx 11), (ndx 12), (ndx 13), (ndx 14), (ndx 15), (ndx 16), (ndx 17), (ndx 18), (ndx 19), (ndx 20), (ndx 21), (ndx 22), (ndx 23), (ndx 24), (ndx 25), (ndx 26), (ndx 27), (ndx 28), (ndx 29), (ndx 30), (ndx 31), (ndx 32), (ndx 33), (ndx 34), (ndx 35), (ndx 36), (ndx 37), (ndx 38), qm, (ndm 0), (ndm 1), (ndm 2), (ndm 3), (ndm 4), (ndm 5), (ndm 6), (ndm 7), (ndm 8), (ndm 9), (ndm 10), (ndm 11), (ndm 12), (ndm 13), (ndm 14), (ndm 15), (ndm 16), (ndm 17), (ndm 18), (ndm 19)].getD k 0) S hA hK hG hX hbl hbA ⟨(Nat.le_of_ble_eq_true rfl), (Nat.le_of_ble_eq_true rfl)⟩ hL hsteps (fun H locs ls hS => ?_) L 0 (Nat.zero_le _) (by omega) _ _ _ _ _ _ _ hinit (lv_sub hl [3, 2, 1, 0] rfl) hP hD hS
  refine lv_iconst (v := 1) hx hbc dL_law_1129 (by decide) ?_
  refine va_forget hS.2.2 ?_
  refine W.widen (k := 600000) (n := 7302250) (Nat.le_of_ble_eq_true rfl) (Nat.le_of_ble_eq_true rfl) ?_
  exact lw_ret hx hbc hr hlocks dL_law_1130
