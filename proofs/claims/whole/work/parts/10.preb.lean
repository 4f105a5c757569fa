def CtIs (S : Type) (l : Launch) (y : MethodName) (cc : ByteArray) (mL : Nat) (ty : FieldType) (f k : Nat) (E : EN) (av : List Value) (W0 : va_W) (W1 : S → va_W) (r : Int32) : Prop :=
  ∀ sz : Nat, Met l y (Cond.code y cc mL (some ty) :: glw) (rmm f k) (va_Pc av (PreB E W0 sz)) (va_Qi (fun (x : Int32) (_ : S) => x = r) (fun u t => va_P E.1 vwCl (W1 u) t.heap ∧ va_D (va_A W0 sz) (W1 u)) (va_A W0 sz)) 0 0 (va_A W0 sz)
theorem CtIs.of {S : Type} {l : Launch} {y : MethodName} {cc : ByteArray} {mL : Nat} {ty : FieldType} {f k : Nat} {E : EN} {av : List Value} {W0 : va_W} {W1 : S → va_W} {r : Int32} (own : String) (hy : plainName y.cls = true) (ho : y.cls = own) (hlen : (lg_sl av).length ≤ mL)
    (body : ∀ (p : Program) (e : Env) (s : State) (m : MethodId) (below : List Frame) (meth : Method) (c : Code) (A : Nat → Prop) (Q : State → Prop) (ls : Array Slot), Cx E p s m av.toArray c own cc mL → (∀ q, s.heap.size ≤ q → A q) → va_P E.1 vwCl W0 s.heap → va_D A W0 → lv_has ls mL (lv_args 0 av) →
      (∀ (u : S) (pc : Nat) (ls : Array Slot) (H : Heap) (locs : List Loc), decode cc pc = .ok (.ireturn, 1) → narrow ty (.int r) = .int r → va_P E.1 vwCl (W1 u) H → va_D A (W1 u) → va_S A s.heap H locs → W p l e (rmm f k) s m av.toArray below meth c H locs 0 0 Q (F0 m pc ls [.int r])) →
      W p l e (rmm f k) s m av.toArray below meth c s.heap [] 0 0 Q (F0 m 0 ls [])) : CtIs S l y cc mL ty f k E av W0 W1 r := by
  intro sz
  refine Met.ofW (cc := cc) (maxL := mL) (ret := some ty) hy rfl ?_
  intro p e s m args below meth c s₁ B hml hv
  obtain ⟨rfl, rfl, hP, hK, hN, hD0⟩ := hv
  have hts := atoms_spec (ws := Cond.code y cc mL (some ty) :: glw) B.pre
  have hown : s.vm.findClass own = some m.cls := ho ▸ findClass_of_methodNamed B.named
  have hlocks := B.notSynchronized
  rw [lg_entry_eq]
  refine body p e s m below meth c (va_A W0 s.heap.size) _ _ ⟨B.exec, B.bytes, hml, hown, fun w h => hts w (List.mem_cons_of_mem _ h), hK, hN⟩ (fun q h => Or.inr h) hP hD0.self (lv_entry av hlen) ?_
  intro u pc ls H locs hd hn hP1 hD1 hS
  exact W.zret (v := r) B.exec B.bytes B.returns hn (fun t ht hW => ⟨⟨r, u, rfl, rfl, by rw [ht]; exact hP1, hD1⟩, hS.F ht⟩) hS.2.2 hd hlocks
def CtLs (S : Type) (l : Launch) (y : MethodName) (cc : ByteArray) (mL : Nat) (f k : Nat) (E : EN) (av : List Value) (W0 : va_W) (W1 : S → va_W) (r : Int64) : Prop :=
  ∀ sz : Nat, Met l y (Cond.code y cc mL (some .long) :: glw) (rmm f k) (va_Pc av (PreB E W0 sz)) (va_Ql (fun (x : Int64) (_ : S) => x = r) (fun u t => va_P E.1 vwCl (W1 u) t.heap ∧ va_D (va_A W0 sz) (W1 u)) (va_A W0 sz)) 0 0 (va_A W0 sz)
theorem CtLs.of {S : Type} {l : Launch} {y : MethodName} {cc : ByteArray} {mL : Nat} {f k : Nat} {E : EN} {av : List Value} {W0 : va_W} {W1 : S → va_W} {r : Int64} (own : String) (hy : plainName y.cls = true) (ho : y.cls = own) (hlen : (lg_sl av).length ≤ mL)
    (body : ∀ (p : Program) (e : Env) (s : State) (m : MethodId) (below : List Frame) (meth : Method) (c : Code) (A : Nat → Prop) (Q : State → Prop) (ls : Array Slot), Cx E p s m av.toArray c own cc mL → (∀ q, s.heap.size ≤ q → A q) → va_P E.1 vwCl W0 s.heap → va_D A W0 → lv_has ls mL (lv_args 0 av) →
      (∀ (u : S) (pc : Nat) (ls : Array Slot) (H : Heap) (locs : List Loc), decode cc pc = .ok (.lreturn, 1) → va_P E.1 vwCl (W1 u) H → va_D A (W1 u) → va_S A s.heap H locs → W p l e (rmm f k) s m av.toArray below meth c H locs 0 0 Q (F0 m pc ls [.long r])) →
      W p l e (rmm f k) s m av.toArray below meth c s.heap [] 0 0 Q (F0 m 0 ls [])) : CtLs S l y cc mL f k E av W0 W1 r := by
  intro sz
  refine Met.ofW (cc := cc) (maxL := mL) (ret := some .long) hy rfl ?_
  intro p e s m args below meth c s₁ B hml hv
  obtain ⟨rfl, rfl, hP, hK, hN, hD0⟩ := hv
  have hts := atoms_spec (ws := Cond.code y cc mL (some .long) :: glw) B.pre
  have hown : s.vm.findClass own = some m.cls := ho ▸ findClass_of_methodNamed B.named
  have hlocks := B.notSynchronized
  rw [lg_entry_eq]
  refine body p e s m below meth c (va_A W0 s.heap.size) _ _ ⟨B.exec, B.bytes, hml, hown, fun w h => hts w (List.mem_cons_of_mem _ h), hK, hN⟩ (fun q h => Or.inr h) hP hD0.self (lv_entry av hlen) ?_
  intro u pc ls H locs hd hP1 hD1 hS
  exact W.lret (v := r) B.exec B.bytes B.returns (fun t ht hW => ⟨⟨r, u, rfl, rfl, by rw [ht]; exact hP1, hD1⟩, hS.F ht⟩) hS.2.2 hd hlocks
def CtVs (S : Type) (l : Launch) (y : MethodName) (cc : ByteArray) (mL : Nat) (f k : Nat) (E : EN) (av : List Value) (W0 : va_W) (W1 : S → va_W) : Prop :=
  ∀ sz : Nat, Met l y (Cond.code y cc mL none :: glw) (rmm f k) (va_Pc av (PreB E W0 sz)) (va_Qv (fun (_ : S) => True) (fun u t => va_P E.1 vwCl (W1 u) t.heap ∧ va_D (va_A W0 sz) (W1 u)) (va_A W0 sz)) 0 0 (va_A W0 sz)
theorem CtVs.of {S : Type} {l : Launch} {y : MethodName} {cc : ByteArray} {mL : Nat} {f k : Nat} {E : EN} {av : List Value} {W0 : va_W} {W1 : S → va_W} (own : String) (hy : plainName y.cls = true) (ho : y.cls = own) (hlen : (lg_sl av).length ≤ mL)
    (body : ∀ (p : Program) (e : Env) (s : State) (m : MethodId) (below : List Frame) (meth : Method) (c : Code) (A : Nat → Prop) (Q : State → Prop) (ls : Array Slot), Cx E p s m av.toArray c own cc mL → (∀ q, s.heap.size ≤ q → A q) → va_P E.1 vwCl W0 s.heap → va_D A W0 → lv_has ls mL (lv_args 0 av) →
      (∀ (u : S) (pc : Nat) (ls : Array Slot) (H : Heap) (locs : List Loc), decode cc pc = .ok (.return_, 1) → va_P E.1 vwCl (W1 u) H → va_D A (W1 u) → va_S A s.heap H locs → W p l e (rmm f k) s m av.toArray below meth c H locs 0 0 Q (F0 m pc ls [])) →
      W p l e (rmm f k) s m av.toArray below meth c s.heap [] 0 0 Q (F0 m 0 ls [])) : CtVs S l y cc mL f k E av W0 W1 := by
  intro sz
  refine Met.ofW (cc := cc) (maxL := mL) (ret := none) hy rfl ?_
  intro p e s m args below meth c s₁ B hml hv
  obtain ⟨rfl, rfl, hP, hK, hN, hD0⟩ := hv
  have hts := atoms_spec (ws := Cond.code y cc mL none :: glw) B.pre
  have hown : s.vm.findClass own = some m.cls := ho ▸ findClass_of_methodNamed B.named
  have hlocks := B.notSynchronized
  rw [lg_entry_eq]
  refine body p e s m below meth c (va_A W0 s.heap.size) _ _ ⟨B.exec, B.bytes, hml, hown, fun w h => hts w (List.mem_cons_of_mem _ h), hK, hN⟩ (fun q h => Or.inr h) hP hD0.self (lv_entry av hlen) ?_
  intro u pc ls H locs hd hP1 hD1 hS
  exact W.vret B.exec B.bytes B.returns (fun t ht hW => ⟨⟨u, rfl, trivial, by rw [ht]; exact hP1, hD1⟩, hS.F ht⟩) hS.2.2 hd hlocks
section Rows
variable {E : EN} {p : Program} {l : Launch} {e : Env} {R : Room} {s : State} {m : MethodId} {args : Array Value} {below : List Frame} {meth : Method} {c : Code} {H : Heap} {locs : List Loc} {cells slots : Nat} {Q : State → Prop} {own : String} {cc : ByteArray} {nL : Nat} {A : Nat → Prop} {ws : va_W} {pc : Nat} {ls : Array Slot} {rest : List Value} {a : Nat}
theorem cV_Is {S : Type} (X : Cx E p s m args c own cc nL) (hA : ∀ q, s.heap.size ≤ q → A q) (hP : va_P E.1 vwCl ws H) (hD : va_D A ws) (hS : va_S A s.heap H locs) (hsz : ls.size = nL) {y : MethodName} {bytes : ByteArray} {mL f k index : Nat} {ty : FieldType} {b : Nat} {As : List Value} {Wc wr : va_W} {W1 ws' : S → va_W} {r : Int32} (hM : CtIs S l y bytes mL ty f k E (.ref b :: As) Wc W1 r) (n : Nat) (hw1 : Cond.methodLink own index y ∈ glw) (hw2 : Cond.instanceMethod y ∈ glw ∧ Cond.selects y.cls y y ∈ glw ∧ Cond.initialized y.cls ∈ glw ∧ Cond.code y bytes mL (some ty) ∈ glw) (hd : y.cls ≠ "java/lang/invoke/MethodHandle" ∧ y.cls ≠ "java/lang/invoke/VarHandle" ∧ (parseMethodDescriptor y.desc).map (fun d => d.parameters.length) = some n) (hR : f + 1 ≤ R.frames ∧ 8 + (mL + 11) + k ≤ R.locals) (isC isR pm : List Nat) (hC : isC.map (fun i => ws[i]?) = Wc.map some) (hCn : va_nd isC = true) (hRr : isR.map (fun i => ws[i]?) = wr.map some) (hRn : va_nd isR = true) (hdis : isR.all (fun i => !isC.contains i) = true) (ci qr : Nat) {q : vw_C} {fs : List Value} (hrc : vwCl[ci]? = some q) (hrn : q.1 = y.cls) (hrv : Wc[qr]? = some (b, .inr (ci, fs))) (hn : As.length = n) {st0 : List Value} (hst : st0 = As.reverse ++ .ref b :: rest) (hrs : (rest.map fun v => v.category).sum ≤ 8) (hpn : va_nd pm = true) (hpm : ∀ u, pm.map (fun i => (wr ++ W1 u)[i]?) = (ws' u).map some) (hcs : cells + 0 ≤ R.cells ∧ slots + 0 ≤ R.slots) (hdg : decode cc pc = .ok (.invokevirtual index, 3))
    (kk : ∀ (u : S) (H1 : Heap) (locs1 : List Loc), va_P E.1 vwCl (ws' u) H1 → va_D A (ws' u) → va_S A s.heap H1 locs1 → W p l e R s m args below meth c H1 locs1 cells slots Q (F0 m (pc + 3) ls (.int r :: rest))) : W p l e R s m args below meth c H locs cells slots Q (F0 m pc ls st0) := by
  have hPc := hP.sub (ws' := Wc) isC (fm_of hC)
  have hDc := hD.sub isC hCn hC
  have hFc := va_free (wc := Wc) hD hS hA isC hC
  have hrm := lv_room (m := m) (pc := pc) (ls := ls) (rest := st0) hrs
  refine va_calli (va_runV (As := As) (rest := rest) ⟨X.1, X.2.1, X.2.2.1, X.2.2.2.1, X.2.2.2.2.1⟩ (hM H.size) ⟨callB_of n X.2.2.2.2.1 (gi_c hw2.2.2.2) rfl rfl rfl (X.2.2.2.2.1 _ hw2.2.2.1) (X.2.2.2.2.1 _ hw1) hd hR, X.2.2.2.2.1 _ hw2.1, X.2.2.2.2.1 _ hw2.2.1⟩ ⟨PreB.blind, hrn ▸ va_recv X.2.2.2.2.2.1 hPc hrc hrv, fun U hU hW => ⟨rfl, by rw [hU], by rw [hU]; exact hPc, va_K.moved hW.alike X.2.2.2.2.2.1, X.2.2.2.2.2.2.warm hW, hDc.weaken (fun _ _ _ _ => trivial)⟩⟩ rfl hn hsz hst hrm hdg ⟨hcs.1, hcs.2⟩) hS (fun q _ h => hFc q h) hFc (fun r9 u t H1 locs1 ht hvm hw hB hz1 hk1 hS1 => ?_)
  subst hw
  obtain ⟨hP1, hD1⟩ := hB
  rw [ht] at hP1
  have hdis' : ∀ i ∈ isR, i ∉ isC := fun i hi hc => by
    have := List.all_eq_true.mp hdis i hi
    rw [List.contains_iff_mem.mpr hc] at this
    cases this
  obtain ⟨hP2, hD2⟩ := va_join hP hD isC isR hC hRr hRn hdis' hk1 hFc hP1 hD1
  exact kk u H1 locs1 (hP2.sub pm (fm_of (hpm u))) (hD2.sub pm hpn (hpm u)) hS1
theorem cV_Ls {S : Type} (X : Cx E p s m args c own cc nL) (hA : ∀ q, s.heap.size ≤ q → A q) (hP : va_P E.1 vwCl ws H) (hD : va_D A ws) (hS : va_S A s.heap H locs) (hsz : ls.size = nL) {y : MethodName} {bytes : ByteArray} {mL f k index : Nat} {b : Nat} {As : List Value} {Wc wr : va_W} {W1 ws' : S → va_W} {r : Int64} (hM : CtLs S l y bytes mL f k E (.ref b :: As) Wc W1 r) (n : Nat) (hw1 : Cond.methodLink own index y ∈ glw) (hw2 : Cond.instanceMethod y ∈ glw ∧ Cond.selects y.cls y y ∈ glw ∧ Cond.initialized y.cls ∈ glw ∧ Cond.code y bytes mL (some .long) ∈ glw) (hd : y.cls ≠ "java/lang/invoke/MethodHandle" ∧ y.cls ≠ "java/lang/invoke/VarHandle" ∧ (parseMethodDescriptor y.desc).map (fun d => d.parameters.length) = some n) (hR : f + 1 ≤ R.frames ∧ 8 + (mL + 11) + k ≤ R.locals) (isC isR pm : List Nat) (hC : isC.map (fun i => ws[i]?) = Wc.map some) (hCn : va_nd isC = true) (hRr : isR.map (fun i => ws[i]?) = wr.map some) (hRn : va_nd isR = true) (hdis : isR.all (fun i => !isC.contains i) = true) (ci qr : Nat) {q : vw_C} {fs : List Value} (hrc : vwCl[ci]? = some q) (hrn : q.1 = y.cls) (hrv : Wc[qr]? = some (b, .inr (ci, fs))) (hn : As.length = n) {st0 : List Value} (hst : st0 = As.reverse ++ .ref b :: rest) (hrs : (rest.map fun v => v.category).sum ≤ 8) (hpn : va_nd pm = true) (hpm : ∀ u, pm.map (fun i => (wr ++ W1 u)[i]?) = (ws' u).map some) (hcs : cells + 0 ≤ R.cells ∧ slots + 0 ≤ R.slots) (hdg : decode cc pc = .ok (.invokevirtual index, 3))
    (kk : ∀ (u : S) (H1 : Heap) (locs1 : List Loc), va_P E.1 vwCl (ws' u) H1 → va_D A (ws' u) → va_S A s.heap H1 locs1 → W p l e R s m args below meth c H1 locs1 cells slots Q (F0 m (pc + 3) ls (.long r :: rest))) : W p l e R s m args below meth c H locs cells slots Q (F0 m pc ls st0) := by
  have hPc := hP.sub (ws' := Wc) isC (fm_of hC)
  have hDc := hD.sub isC hCn hC
  have hFc := va_free (wc := Wc) hD hS hA isC hC
  have hrm := lv_room (m := m) (pc := pc) (ls := ls) (rest := st0) hrs
  refine va_calll (va_runV (As := As) (rest := rest) ⟨X.1, X.2.1, X.2.2.1, X.2.2.2.1, X.2.2.2.2.1⟩ (hM H.size) ⟨callB_of n X.2.2.2.2.1 (gi_c hw2.2.2.2) rfl rfl rfl (X.2.2.2.2.1 _ hw2.2.2.1) (X.2.2.2.2.1 _ hw1) hd hR, X.2.2.2.2.1 _ hw2.1, X.2.2.2.2.1 _ hw2.2.1⟩ ⟨PreB.blind, hrn ▸ va_recv X.2.2.2.2.2.1 hPc hrc hrv, fun U hU hW => ⟨rfl, by rw [hU], by rw [hU]; exact hPc, va_K.moved hW.alike X.2.2.2.2.2.1, X.2.2.2.2.2.2.warm hW, hDc.weaken (fun _ _ _ _ => trivial)⟩⟩ rfl hn hsz hst hrm hdg ⟨hcs.1, hcs.2⟩) hS (fun q _ h => hFc q h) hFc (fun r9 u t H1 locs1 ht hvm hw hB hz1 hk1 hS1 => ?_)
  subst hw
  obtain ⟨hP1, hD1⟩ := hB
  rw [ht] at hP1
  have hdis' : ∀ i ∈ isR, i ∉ isC := fun i hi hc => by
    have := List.all_eq_true.mp hdis i hi
    rw [List.contains_iff_mem.mpr hc] at this
    cases this
  obtain ⟨hP2, hD2⟩ := va_join hP hD isC isR hC hRr hRn hdis' hk1 hFc hP1 hD1
  exact kk u H1 locs1 (hP2.sub pm (fm_of (hpm u))) (hD2.sub pm hpn (hpm u)) hS1
theorem cV_Vs {S : Type} (X : Cx E p s m args c own cc nL) (hA : ∀ q, s.heap.size ≤ q → A q) (hP : va_P E.1 vwCl ws H) (hD : va_D A ws) (hS : va_S A s.heap H locs) (hsz : ls.size = nL) {y : MethodName} {bytes : ByteArray} {mL f k index : Nat} {b : Nat} {As : List Value} {Wc wr : va_W} {W1 ws' : S → va_W} (hM : CtVs S l y bytes mL f k E (.ref b :: As) Wc W1) (n : Nat) (hw1 : Cond.methodLink own index y ∈ glw) (hw2 : Cond.instanceMethod y ∈ glw ∧ Cond.selects y.cls y y ∈ glw ∧ Cond.initialized y.cls ∈ glw ∧ Cond.code y bytes mL none ∈ glw) (hd : y.cls ≠ "java/lang/invoke/MethodHandle" ∧ y.cls ≠ "java/lang/invoke/VarHandle" ∧ (parseMethodDescriptor y.desc).map (fun d => d.parameters.length) = some n) (hR : f + 1 ≤ R.frames ∧ 8 + (mL + 11) + k ≤ R.locals) (isC isR pm : List Nat) (hC : isC.map (fun i => ws[i]?) = Wc.map some) (hCn : va_nd isC = true) (hRr : isR.map (fun i => ws[i]?) = wr.map some) (hRn : va_nd isR = true) (hdis : isR.all (fun i => !isC.contains i) = true) (ci qr : Nat) {q : vw_C} {fs : List Value} (hrc : vwCl[ci]? = some q) (hrn : q.1 = y.cls) (hrv : Wc[qr]? = some (b, .inr (ci, fs))) (hn : As.length = n) {st0 : List Value} (hst : st0 = As.reverse ++ .ref b :: rest) (hrs : (rest.map fun v => v.category).sum ≤ 8) (hpn : va_nd pm = true) (hpm : ∀ u, pm.map (fun i => (wr ++ W1 u)[i]?) = (ws' u).map some) (hcs : cells + 0 ≤ R.cells ∧ slots + 0 ≤ R.slots) (hdg : decode cc pc = .ok (.invokevirtual index, 3))
    (kk : ∀ (u : S) (H1 : Heap) (locs1 : List Loc), va_P E.1 vwCl (ws' u) H1 → va_D A (ws' u) → va_S A s.heap H1 locs1 → W p l e R s m args below meth c H1 locs1 cells slots Q (F0 m (pc + 3) ls (rest))) : W p l e R s m args below meth c H locs cells slots Q (F0 m pc ls st0) := by
  have hPc := hP.sub (ws' := Wc) isC (fm_of hC)
  have hDc := hD.sub isC hCn hC
  have hFc := va_free (wc := Wc) hD hS hA isC hC
  have hrm := lv_room (m := m) (pc := pc) (ls := ls) (rest := st0) hrs
  refine va_callv (va_runV (As := As) (rest := rest) ⟨X.1, X.2.1, X.2.2.1, X.2.2.2.1, X.2.2.2.2.1⟩ (hM H.size) ⟨callB_of n X.2.2.2.2.1 (gi_c hw2.2.2.2) rfl rfl rfl (X.2.2.2.2.1 _ hw2.2.2.1) (X.2.2.2.2.1 _ hw1) hd hR, X.2.2.2.2.1 _ hw2.1, X.2.2.2.2.1 _ hw2.2.1⟩ ⟨PreB.blind, hrn ▸ va_recv X.2.2.2.2.2.1 hPc hrc hrv, fun U hU hW => ⟨rfl, by rw [hU], by rw [hU]; exact hPc, va_K.moved hW.alike X.2.2.2.2.2.1, X.2.2.2.2.2.2.warm hW, hDc.weaken (fun _ _ _ _ => trivial)⟩⟩ rfl hn hsz hst hrm hdg ⟨hcs.1, hcs.2⟩) hS (fun q _ h => hFc q h) hFc (fun u t H1 locs1 ht hvm hw hB hz1 hk1 hS1 => ?_)
  obtain ⟨hP1, hD1⟩ := hB
  rw [ht] at hP1
  have hdis' : ∀ i ∈ isR, i ∉ isC := fun i hi hc => by
    have := List.all_eq_true.mp hdis i hi
    rw [List.contains_iff_mem.mpr hc] at this
    cases this
  obtain ⟨hP2, hD2⟩ := va_join hP hD isC isR hC hRr hRn hdis' hk1 hFc hP1 hD1
  exact kk u H1 locs1 (hP2.sub pm (fm_of (hpm u))) (hD2.sub pm hpn (hpm u)) hS1
end Rows
