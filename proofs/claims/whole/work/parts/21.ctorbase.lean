/-! CONSTRUCTORS: contracts that make cells; the new addresses come as a function -/
def zQk (D : va_G) (w1f : (Nat → Nat) → va_W) (A : Nat → Prop) : Array Value → State → Outcome → State → Prop := fun _ st oc t => oc = .returned none ∧ (∃ nd : Nat → Nat, va_P D vwCl (w1f nd) t.heap ∧ va_D A (w1f nd)) ∧ va_F A st t
def zK (l : Launch) (y : MethodName) (wsc : List Cond) (rm : Room) (D : va_G) (tys : List (ClassId × FieldType)) (ga : Nat → Nat) (av : List Value) (wc : va_W) (w1f : (Nat → Nat) → va_W) (mc ms : Nat) : Prop :=
  ∀ sz : Nat, Met l y wsc rm (zPc D tys ga av wc sz) (zQk D w1f (va_A wc sz)) mc ms (va_A wc sz)
theorem zenterK {l : Launch} {y : MethodName} {own : String} {wsc wsc' : List Cond} {rm : Room} {D : va_G} {tys : List (ClassId × FieldType)} {ga : Nat → Nat} {av : List Value} {wc : va_W} {w1f : (Nat → Nat) → va_W} {mc ms : Nat} {cc : ByteArray} {maxL : Nat} (hy : plainName y.cls = true) (hw : wsc = .code y cc maxL none :: wsc') (hown0 : y.cls = own) (hname : y.name = "<init>") (hlen : (lg_sl av).length ≤ maxL)
    (body : ∀ (p : Program) (e : Env) (s : State) (m : MethodId) (args : Array Value) (below : List Frame) (meth : Method) (c : Code) (A : Nat → Prop) (ls : Array Slot) (Q : State → Prop), CallFix p m c cc maxL s args wsc own → (∀ q, s.heap.size ≤ q → A q) → va_K D vwCl tys s → zG ga A s s.heap → lv_has ls maxL (lv_args 0 av) → va_P D vwCl wc s.heap → va_D A wc → va_S A s.heap s.heap [] → meth.name = "<init>" →
      (∀ (nd : Nat → Nat) (H : Heap) (locs : List Loc) (pc : Nat) (ls : Array Slot), va_P D vwCl (w1f nd) H → va_D A (w1f nd) → va_S A s.heap H locs → decode cc pc = .ok (.return_, 1) → W p l e rm s m args below meth c H locs mc ms Q (F0 m pc ls [])) → W p l e rm s m args below meth c s.heap [] 0 0 Q (F0 m 0 ls [])) : zK l y wsc rm D tys ga av wc w1f mc ms := by
  intro sz
  refine Met.ofW (cc := cc) (maxL := maxL) (ret := none) hy hw ?_
  intro p e s m args below meth c s₁ B hml hv
  obtain ⟨rfl, hsz, hP, hK, hD0, hG⟩ := hv
  subst hsz
  have h := body p e s m av.toArray below meth c (va_A wc s.heap.size) _ _ ⟨B.exec, B.bytes, hml, hown0 ▸ findClass_of_methodNamed B.named, atoms_spec (ws := wsc) B.pre⟩ (fun q h => Or.inr h) hK hG (lv_entry av hlen) hP hD0.self va_S.rf (by rw [← hname]; exact (name_of_methodNamed B.named B.method).1) fun nd H locs pc ls hP hD hS hd =>
    W.vret (Qc := zQk D w1f (va_A wc s.heap.size)) B.exec B.bytes B.returns (fun t ht hW => ⟨rfl, ⟨nd, by rw [ht]; exact hP, hD⟩, hS.F ht⟩) hS.2.2 hd (hlocks := B.notSynchronized)
  rw [lg_entry_eq]
  exact h
section ZKC
variable {p : Program} {l : Launch} {e : Env} {R : Room} {s : State} {m : MethodId} {args : Array Value} {below : List Frame} {meth : Method} {c : Code} {H : Heap} {locs : List Loc} {cells slots mc ms : Nat} {Q : State → Prop}
variable {pc : Nat} {ls : Array Slot} {rest st0 : List Value} {a : Array Value} {A : Nat → Prop} {D : va_G} {tys : List (ClassId × FieldType)} {ga : Nat → Nat} {ws wc wr w2 : va_W} {isC isR : List Nat} {w1f : (Nat → Nat) → va_W}
theorem zcallk (hr : va_Run p l e R s m args below meth c H locs cells slots mc ms (F0 m pc ls st0) rest (zQk D w1f (va_A wc H.size) a) (va_A wc H.size)) (hP : va_P D vwCl ws H) (hD : va_D A ws) (hS : va_S A s.heap H locs) (hA : ∀ q, s.heap.size ≤ q → A q)
    (hC : isC.map (fun i => ws[i]?) = wc.map some) (hR : isR.map (fun i => ws[i]?) = wr.map some) (hn : va_nd isR = true) (hdis : ∀ i ∈ isR, i ∉ isC)
    (kk : ∀ (nd : Nat → Nat) (H1 : Heap) (locs1 : List Loc), va_P D vwCl (wr ++ w1f nd) H1 → va_D A (wr ++ w1f nd) → va_S A s.heap H1 locs1 → W p l e R s m args below meth c H1 locs1 (cells + mc) (slots + ms) Q (F0 m (pc + 3) ls rest)) : W p l e R s m args below meth c H locs cells slots Q (F0 m pc ls st0) := by
  have hfree := va_free hD hS hA isC hC
  intro T hT X
  obtain ⟨v, st₀, t, T', L, h0, X', hL, e1, e2, ⟨hv, ⟨nd, hp, hd⟩, hz, hk⟩, st⟩ := hr T hT X
  cases hv
  rw [h0] at hz hk
  rw [← e1] at hp
  have hk' : ∀ q : Nat, q < H.size → ¬ va_A wc H.size q → T'.heap[q]? = H[q]? := fun q h1 h2 => by rw [e1]; exact hk q h1 h2
  obtain ⟨j1, j2⟩ := va_join hP hD isC isR hC hR hn hdis hk' hfree hp hd
  obtain ⟨t2, a1, b1⟩ := kk nd T'.heap (locs ++ L) j1 j2
    ⟨Nat.le_trans hS.1 (by rw [e1]; exact hz), fun q h1 h2 => by rw [hk' q (Nat.lt_of_lt_of_le h1 hS.1) (fun z => h2 (hfree q z))]; exact hS.2.1 q h1 h2, fun q hq => by
      rcases List.mem_append.mp hq with h | h
      · exact hS.2.2 q h
      · exact hfree _ (hL q h)⟩ T' rfl X'
  exact ⟨t2, st t2 a1, b1⟩
variable {y : MethodName} {bytes cc : ByteArray} {maxL nL n index : Nat} {wsc wsc' : List Cond} {rm : Room} {Ts : List Cond} {own : String} {b : Addr} {As : List Value}
theorem zpreK (hP : va_P D vwCl ws H) (hD : va_D A ws) (hS : va_S A s.heap H locs) (hA : ∀ q, s.heap.size ≤ q → A q) (hK : va_K D vwCl tys s) (hG : zG ga A s s.heap) {av : List Value} (hC : isC.map (fun i => ws[i]?) = wc.map some) (hn : va_nd isC = true) : PreS s H (zPc D tys ga av wc H.size) av := ⟨zPc_blind, zpre hP hD hS hA hK hG hC hn⟩
/-- a constructor is called -/
theorem zcallK (S : CallFix p m c cc nL s args Ts own) (hM : zK l y wsc rm D tys ga (.ref b :: As) wc w1f mc ms) (hG' : GoodIn Ts wsc) (hw' : wsc = Cond.code y bytes maxL none :: wsc') (hini : Cond.initialized y.cls ∈ Ts) (hlk : Cond.methodLink own index y ∈ Ts) (hin : Cond.instanceMethod y ∈ Ts) (hname : y.name = "<init>") (hd : y.cls ≠ "java/lang/invoke/MethodHandle" ∧ y.cls ≠ "java/lang/invoke/VarHandle" ∧ (parseMethodDescriptor y.desc).map (fun d => d.parameters.length) = some n)
    (hrm : rm.cells = mc ∧ rm.slots = ms) (hR9 : rm.frames + 1 ≤ R.frames ∧ 8 + (maxL + 11) + rm.locals ≤ R.locals)
    (hnA : As.length = n) (hsize : ls.size = nL) (hstack : st0 = As.reverse ++ .ref b :: rest) (hW : (rest.map fun v => v.category).sum ≤ 8) (hdg : decode cc pc = .ok (.invokespecial index, 3))
    (hP : va_P D vwCl ws H) (hD : va_D A ws) (hS : va_S A s.heap H locs) (hA : ∀ q, s.heap.size ≤ q → A q) (hK : va_K D vwCl tys s) (hG : zG ga A s s.heap)
    (hC : isC.map (fun i => ws[i]?) = wc.map some) (hnC : va_nd isC = true) (hR : isR.map (fun i => ws[i]?) = wr.map some) (hn : va_nd isR = true) (hdis : ∀ i ∈ isR, i ∉ isC) (hcs : cells + mc ≤ R.cells ∧ slots + ms ≤ R.slots)
    (kk : ∀ (nd : Nat → Nat) (H1 : Heap) (locs1 : List Loc), va_P D vwCl (wr ++ w1f nd) H1 → va_D A (wr ++ w1f nd) → va_S A s.heap H1 locs1 → W p l e R s m args below meth c H1 locs1 (cells + mc) (slots + ms) Q (F0 m (pc + 3) ls rest)) : W p l e R s m args below meth c H locs cells slots Q (F0 m pc ls st0) := by
  have ht := S.2.2.2.2
  have hr := va_runI (l := l) (e := e) (R := R) (below := below) (meth := meth) (locs := locs) (cells := cells) (slots := slots) (rest := rest) (g := F0 m pc ls st0) S (hM H.size) (cwI n ht hG' hw' hrm.1 hrm.2 (ht _ hini) (ht _ hlk) (ht _ hin) hname hd hR9) (zpreK hP hD hS hA hK hG hC hnC) rfl hnA hsize hstack (lv_room (ls := ls) (pc := pc) (m := m) (rest := st0) hW) hdg hcs
  exact zcallk hr hP hD hS hA hC hR hn hdis kk
theorem zcallKN {host : String} (S : CallFix p m c cc nL s args Ts own) (hM : zK l y wsc rm D tys ga (.ref b :: As) wc w1f mc ms) (hG' : GoodIn Ts wsc) (hw' : wsc = Cond.code y bytes maxL none :: wsc') (hini : Cond.initialized y.cls ∈ Ts) (hl : va_Nw (.methodLinkNest own index y host) s) (hin : Cond.instanceMethod y ∈ Ts) (hname : y.name = "<init>") (hd : y.cls ≠ "java/lang/invoke/MethodHandle" ∧ y.cls ≠ "java/lang/invoke/VarHandle" ∧ (parseMethodDescriptor y.desc).map (fun d => d.parameters.length) = some n)
    (hrm : rm.cells = mc ∧ rm.slots = ms) (hR9 : rm.frames + 1 ≤ R.frames ∧ 8 + (maxL + 11) + rm.locals ≤ R.locals)
    (hnA : As.length = n) (hsize : ls.size = nL) (hstack : st0 = As.reverse ++ .ref b :: rest) (hW : (rest.map fun v => v.category).sum ≤ 8) (hdg : decode cc pc = .ok (.invokespecial index, 3))
    (hP : va_P D vwCl ws H) (hD : va_D A ws) (hS : va_S A s.heap H locs) (hA : ∀ q, s.heap.size ≤ q → A q) (hK : va_K D vwCl tys s) (hG : zG ga A s s.heap)
    (hC : isC.map (fun i => ws[i]?) = wc.map some) (hnC : va_nd isC = true) (hR : isR.map (fun i => ws[i]?) = wr.map some) (hn : va_nd isR = true) (hdis : ∀ i ∈ isR, i ∉ isC) (hcs : cells + mc ≤ R.cells ∧ slots + ms ≤ R.slots)
    (kk : ∀ (nd : Nat → Nat) (H1 : Heap) (locs1 : List Loc), va_P D vwCl (wr ++ w1f nd) H1 → va_D A (wr ++ w1f nd) → va_S A s.heap H1 locs1 → W p l e R s m args below meth c H1 locs1 (cells + mc) (slots + ms) Q (F0 m (pc + 3) ls rest)) : W p l e R s m args below meth c H locs cells slots Q (F0 m pc ls st0) := by
  have ht := S.2.2.2.2
  have hr := va_runIN (l := l) (e := e) (R := R) (below := below) (meth := meth) (locs := locs) (cells := cells) (slots := slots) (rest := rest) (g := F0 m pc ls st0) S (hM H.size) ⟨va_cnB n ht hG' hw' hrm.1 hrm.2 hl (ht _ hini) hd hR9, hname, ht _ hin⟩ (zpreK hP hD hS hA hK hG hC hnC) rfl hnA hsize hstack (lv_room (ls := ls) (pc := pc) (m := m) (rest := st0) hW) hdg hcs
  exact zcallk hr hP hD hS hA hC hR hn hdis kk
end ZKC
section ZKI
variable {p : Program} {l : Launch} {e : Env} {R : Room} {s : State} {m : MethodId} {args : Array Value} {below : List Frame} {meth : Method} {c : Code} {H : Heap} {locs : List Loc} {cells slots : Nat} {Q : State → Prop}
variable {cc : ByteArray} {pc nL : Nat} {ls : Array Slot} {rest : List Value} {D : va_G} {a : Nat} {tys : List (ClassId × FieldType)} {ws w2 : va_W} {H0 : Heap} {A : Nat → Prop} {x0 : Cond} {own : String}
theorem zputF {C : String} {T : u_T} {N ci index : Nat} {ty : FieldType} {v : Value} (S : CallFix p m c cc nL s args (x0 :: wsL_law) own) (hK : va_K D vwCl tys s) (hP : va_P D vwCl ws H) (hD : va_D A ws) (hS : va_S A H0 H locs) (hin2 : meth.name = "<init>") (q0 : Nat) {fs : List Value} (he : ws[q0]? = some (a, .inr (ci, fs))) (hc : vwCl[ci]? = some (C, T, N)) (k : Nat) (hk : k < N) (hin : ∀ w ∈ u_ws C T N, w ∈ wsL_law) (ty0 : Nat → FieldType) (hty : ∀ k, k < N → parseFieldDescriptor (T k).2.2.1 = some (ty0 k)) (hnm : ∀ a, a < N → ∀ b, b < N → a ≠ b → (T a).2.1 ≠ (T b).2.1) (hlink : Cond.fieldLink own index (T k).1 (T k).2.1 (T k).2.2.1 ∈ wsL_law) (hfin : (T k).2.2.2 = true) (hdecl : (T k).1 = own) (hd : parseFieldDescriptor (T k).2.2.1 = some ty) (hn : narrow ty v = v) (hfit : fits ty v = true) (hl : k < fs.length) (hdg : decode cc pc = .ok (.putfield index, 3)) (hw : ws.set q0 (a, .inr (ci, fs.set k v)) = w2)
    (kk : ∀ (H1 : Heap) (locs1 : List Loc), va_P D vwCl w2 H1 → va_D A w2 → va_S A H0 H1 locs1 → W p l e R s m args below meth c H1 locs1 cells slots Q (F0 m (pc + 3) ls rest)) : W p l e R s m args below meth c H locs cells slots Q (F0 m pc ls (v :: .ref a :: rest)) := by
  subst hw
  exact va_putF S.1 S.2.1 S.2.2.2.2 (fun w h => List.mem_cons_of_mem _ (hin w h)) ty0 hty hnm S.2.2.2.1 hK hP hD hS q0 he hc k hk (S.2.2.2.2 _ (List.mem_cons_of_mem _ hlink)) (fun _ h => h) hfin hin2 hdecl hd hn hfit hl hdg kk
theorem znew {C : String} {T : u_T} {N ci index k2 n2 : Nat} (S : CallFix p m c cc nL s args (x0 :: wsL_law) own) (hin : ∀ w ∈ u_ws C T N, w ∈ wsL_law) (ty : Nat → FieldType) (hty : ∀ k, k < N → parseFieldDescriptor (T k).2.2.1 = some (ty k)) (hcl : Cond.classLink own index C ∈ wsL_law) (hinst : Cond.instantiable C N ∈ wsL_law) (hini : Cond.initialized C ∈ wsL_law)
    (hK : va_K D vwCl tys s) (hP : va_P D vwCl ws H) (hD : va_D A ws) (hS : va_S A H0 H locs) (hA : ∀ q, H0.size ≤ q → A q) (hc : vwCl[ci]? = some (C, T, N)) {fs : List Value} (hfs : ∀ j, j < N → defaultValue (ty j) = vp_V fs j) (hcells : cells + 1 ≤ R.cells) (hslots : slots + N ≤ R.slots) (hdg : decode cc pc = .ok (.new index, 3)) (hk2 : cells + 1 ≤ k2) (hn2 : slots + N ≤ n2)
    (kk : ∀ (q : Nat) (H1 : Heap), va_P D vwCl (ws ++ [(q, .inr (ci, fs))]) H1 → va_D A (ws ++ [(q, .inr (ci, fs))]) → va_S A H0 H1 locs → W p l e R s m args below meth c H1 locs k2 n2 Q (F0 m (pc + 3) ls (.ref q :: rest))) : W p l e R s m args below meth c H locs cells slots Q (F0 m pc ls rest) := by
  have hh : ∀ w, w ∈ wsL_law → w.before args s = true := fun w h => S.2.2.2.2 w (List.mem_cons_of_mem _ h)
  refine va_new S.1 S.2.1 S.2.2.2.2 (fun w h => List.mem_cons_of_mem _ (hin w h)) ty hty S.2.2.2.1 (hh _ hcl) (hh _ hinst) (hh _ hini) hK hP hD hS hA hc hfs hcells hslots hdg fun q H1 hP hD hS => W.widen hk2 hn2 (kk q H1 hP hD hS)
/-- an array of numbers: its class is the one of the tables -/
theorem znewa {atype : ArrayType} {k2 n2 : Nat} {cT : ClassId} (t0 : Nat) (S : CallFix p m c cc nL s args (x0 :: wsL_law) own) (harr : Cond.arrayClass (newarray.typeOf atype) ∈ wsL_law) {ty : FieldType} (hty : newarray.typeOf atype = ty) (ht : tys[t0]? = some (cT, ty)) (hprim : ∀ (U : State) (x : ClassId), va_RA U x ty = (U.vm.findClass ("[" ++ ty.toString) = some x)) (hK : va_K D vwCl tys s) (hP : va_P D vwCl ws H) (hD : va_D A ws) (hS : va_S A H0 H locs) (hA : ∀ q, H0.size ≤ q → A q)
    {n : Int32} {N' : Nat} {a0 : vp_A} (ha : ∀ cA : ClassId, vp_cell cA a0 = arrV cA N' (fun _ => defaultValue ty)) (hn : ¬ n < 0) (hN : n.toNatClampNeg = N') (hbytes : N' * componentBytes ty ≤ 536870912) (hcells : cells + 1 ≤ R.cells) (hslots : slots + N' ≤ R.slots) (hdg : decode cc pc = .ok (.newarray atype, 2)) (hk2 : cells + 1 ≤ k2) (hn2 : slots + N' ≤ n2)
    (kk : ∀ (q : Nat) (H1 : Heap), va_P D vwCl (ws ++ [(q, .inl (cT, a0))]) H1 → va_D A (ws ++ [(q, .inl (cT, a0))]) → va_S A H0 H1 locs → W p l e R s m args below meth c H1 locs k2 n2 Q (F0 m (pc + 2) ls (.ref q :: rest))) : W p l e R s m args below meth c H locs cells slots Q (F0 m pc ls (.int n :: rest)) := by
  have hh : ∀ w, w ∈ wsL_law → w.before args s = true := fun w h => S.2.2.2.2 w (List.mem_cons_of_mem _ h)
  refine va_newa S.1 S.2.1 (hh _ harr) hty hK hP hD hS hA ha hn hN hbytes hcells hslots hdg fun q cA H1 hK2 hP hD hS => ?_
  have e1 := (hK.2 t0 _ ht).2
  have e2 := (hK2.2 tys.length (cA, ty) (by rw [List.getElem?_append_right (Nat.le_refl _), Nat.sub_self]; rfl)).2
  rw [hprim] at e1 e2
  have e : cA = cT := Option.some.inj (e2.symm.trans e1)
  subst e
  exact W.widen hk2 hn2 (kk q H1 hP hD hS)
theorem zobj {index : Nat} {b : Addr} (S : CallFix p m c cc nL s args (x0 :: wsL_law) own) (hlink : Cond.methodLink own index Lib.objectInit ∈ wsL_law) (hinst : Cond.instanceMethod Lib.objectInit ∈ wsL_law) (hcode : Cond.code Lib.objectInit ⟨#[0xb1]⟩ 1 none ∈ wsL_law) (hsize : ls.size = nL) (hd : decode cc pc = .ok (.invokespecial index, 3)) (hframes : 1 ≤ R.frames) (hlocals : (rest.map fun v => v.category).sum + 12 ≤ R.locals)
    (kk : W p l e R s m args below meth c H locs cells slots Q (F0 m (pc + 3) ls rest)) : W p l e R s m args below meth c H locs cells slots Q (F0 m pc ls (.ref b :: rest)) := by
  have hh : ∀ w, w ∈ wsL_law → w.before args s = true := fun w h => S.2.2.2.2 w (List.mem_cons_of_mem _ h)
  exact W.objInit S.1 S.2.1 S.2.2.2.1 (hh _ hlink) (hh _ hinst) (hh _ hcode) rfl (hsize.trans S.2.2.1.symm) rfl hd hframes (by show 2 * 0 + _ + 12 ≤ _; omega) kk
end ZKI
theorem zpI (U : State) (x : ClassId) : va_RA U x .int = (U.vm.findClass ("[" ++ (FieldType.int).toString) = some x) := rfl
theorem zpJ (U : State) (x : ClassId) : va_RA U x .long = (U.vm.findClass ("[" ++ (FieldType.long).toString) = some x) := rfl
theorem zpZ (U : State) (x : ClassId) : va_RA U x .boolean = (U.vm.findClass ("[" ++ (FieldType.boolean).toString) = some x) := rfl
theorem znewI (N : Nat) (cA : ClassId) : vp_cell cA (N, .inl (fun _ => (0 : Int32))) = arrV cA N (fun _ => defaultValue .int) := by rw [vp_cell_i]; rfl
theorem znewZ (N : Nat) (cA : ClassId) : vp_cell cA (N, .inl (fun _ => (0 : Int32))) = arrV cA N (fun _ => defaultValue .boolean) := by rw [vp_cell_i]; rfl
theorem znewJ (N : Nat) (cA : ClassId) : vp_cell cA (N, .inr (.inl (fun _ => (0 : Int64)))) = arrV cA N (fun _ => defaultValue .long) := by rw [vp_cell_l]; rfl
