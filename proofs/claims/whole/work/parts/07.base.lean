/-! my own words: the environment of class numbers, the worlds' cells, contracts that make nothing, and one row a call -/
abbrev EN : Type := va_G × ClassId × ClassId × ClassId × ClassId × ClassId
abbrev tysE (E : EN) : List (ClassId × FieldType) := [(E.2.1, .int), (E.2.2.1, .char), (E.2.2.2.1, .long), (E.2.2.2.2.1, .boolean), (E.2.2.2.2.2, .object "WhereverBegun$Table")]
abbrev e_I (E : EN) (n : Nat) (f : Nat → Int32) : va_E := .inl (E.2.1, n, .inl f)
abbrev e_C (E : EN) (n : Nat) (f : Nat → Int32) : va_E := .inl (E.2.2.1, n, .inl f)
abbrev e_J (E : EN) (n : Nat) (f : Nat → Int64) : va_E := .inl (E.2.2.2.1, n, .inr (.inl f))
abbrev e_Z (E : EN) (n : Nat) (f : Nat → Int32) : va_E := .inl (E.2.2.2.2.1, n, .inl f)
abbrev e_T (E : EN) (n : Nat) (f : Nat → Option Nat) : va_E := .inl (E.2.2.2.2.2, n, .inr (.inr (.inr (.inr f))))
abbrev e_O (ci : Nat) (fs : List Value) : va_E := .inr (ci, fs)
theorem gi_of {ws : List Cond} (hm : ∀ w ∈ ws, w ∈ glw) : GoodIn glw ws := fun w hw => ⟨hm w hw, good_of_word (List.mem_filter.mp (hm w hw)).2⟩
theorem gi_c {w0 : Cond} (h : w0 ∈ glw) : GoodIn glw (w0 :: glw) := gi_of (fun _ hw => (List.mem_cons.mp hw).elim (fun e => e ▸ h) id)
def NW (U : State) : Prop := va_Nw (.methodLinkNest RX2 38 yX5_countOf RX5) U ∧ va_Nw (.methodLinkNest RX4 42 yX5_leastBit RX5) U ∧ va_Nw (.methodLinkNest RX5 33 yX2_init RX5) U ∧ va_Nw (.methodLinkNest RX5 40 yX0_init RX5) U ∧ va_Nw (.methodLinkNest RX5 47 yX4_init RX5) U ∧ va_Nw (.methodLinkNest RX5 54 yX1_init RX5) U ∧ va_AO "WhereverBegun$Table" U
theorem NW.warm {s U : State} (hW : s.WarmedH U.vm) (h : NW s) : NW U := ⟨va_Nw.warmM hW h.1, va_Nw.warmM hW h.2.1, va_Nw.warmM hW h.2.2.1, va_Nw.warmM hW h.2.2.2.1, va_Nw.warmM hW h.2.2.2.2.1, va_Nw.warmM hW h.2.2.2.2.2.1, va_AO.moved hW.alike h.2.2.2.2.2.2⟩
theorem NW.same {s U : State} (e : s.vm = U.vm) (h : NW s) : NW U := ⟨va_Nw.same rfl e h.1, va_Nw.same rfl e h.2.1, va_Nw.same rfl e h.2.2.1, va_Nw.same rfl e h.2.2.2.1, va_Nw.same rfl e h.2.2.2.2.1, va_Nw.same rfl e h.2.2.2.2.2.1, va_AO.moved (by rw [e]; exact Vm.Alike.refl _) h.2.2.2.2.2.2⟩
def PreB (E : EN) (W0 : va_W) (sz : Nat) (U : State) : Prop := U.heap.size = sz ∧ va_P E.1 vwCl W0 U.heap ∧ va_K E.1 vwCl (tysE E) U ∧ NW U ∧ va_D (fun _ => True) W0
theorem PreB.blind {E : EN} {W0 : va_W} {sz : Nat} {av : List Value} : FrameBlind (va_Pc av (PreB E W0 sz)) := by
  intro a U g mk q
  obtain ⟨q0, q1, qP, qK, qN, qD⟩ := q
  exact ⟨q0, q1, qP, va_K.moved (u := U) (U := U.calling g mk a) (Vm.Alike.refl U.vm) qK, NW.same (s := U) (U := U.calling g mk a) rfl qN, qD⟩
abbrev rmm (f k : Nat) : Room := { frames := f, cells := 0, slots := 0, locals := k }
def Cx (E : EN) (p : Program) (s : State) (m : MethodId) (args : Array Value) (c : Code) (own : String) (cc : ByteArray) (nL : Nat) : Prop :=
  p.tables.exec = Jvm.exec ∧ c.code = cc ∧ c.maxLocals = nL ∧ s.vm.findClass own = some m.cls ∧ (∀ w ∈ glw, w.before args s = true) ∧ va_K E.1 vwCl (tysE E) s ∧ NW s
/-- a method that answers an int (or a boolean: ty), makes nothing, and leaves the world W1 -/
def CtI (l : Launch) (y : MethodName) (cc : ByteArray) (mL : Nat) (ty : FieldType) (f k : Nat) (E : EN) (av : List Value) (W0 W1 : va_W) (r : Int32) : Prop :=
  ∀ sz : Nat, Met l y (Cond.code y cc mL (some ty) :: glw) (rmm f k) (va_Pc av (PreB E W0 sz)) (va_Qi (fun (x : Int32) (_ : Unit) => x = r) (fun _ t => va_P E.1 vwCl W1 t.heap ∧ va_D (va_A W0 sz) W1) (va_A W0 sz)) 0 0 (va_A W0 sz)
def CtL (l : Launch) (y : MethodName) (cc : ByteArray) (mL : Nat) (f k : Nat) (E : EN) (av : List Value) (W0 W1 : va_W) (r : Int64) : Prop :=
  ∀ sz : Nat, Met l y (Cond.code y cc mL (some .long) :: glw) (rmm f k) (va_Pc av (PreB E W0 sz)) (va_Ql (fun (x : Int64) (_ : Unit) => x = r) (fun _ t => va_P E.1 vwCl W1 t.heap ∧ va_D (va_A W0 sz) W1) (va_A W0 sz)) 0 0 (va_A W0 sz)
def CtV (l : Launch) (y : MethodName) (cc : ByteArray) (mL : Nat) (f k : Nat) (E : EN) (av : List Value) (W0 W1 : va_W) : Prop :=
  ∀ sz : Nat, Met l y (Cond.code y cc mL none :: glw) (rmm f k) (va_Pc av (PreB E W0 sz)) (va_Qv (fun (_ : Unit) => True) (fun _ t => va_P E.1 vwCl W1 t.heap ∧ va_D (va_A W0 sz) W1) (va_A W0 sz)) 0 0 (va_A W0 sz)
theorem CtI.of {l : Launch} {y : MethodName} {cc : ByteArray} {mL : Nat} {ty : FieldType} {f k : Nat} {E : EN} {av : List Value} {W0 W1 : va_W} {r : Int32} (own : String) (hy : plainName y.cls = true) (ho : y.cls = own) (hlen : (lg_sl av).length ≤ mL)
    (body : ∀ (p : Program) (e : Env) (s : State) (m : MethodId) (below : List Frame) (meth : Method) (c : Code) (A : Nat → Prop) (Q : State → Prop) (ls : Array Slot), Cx E p s m av.toArray c own cc mL → (∀ q, s.heap.size ≤ q → A q) → va_P E.1 vwCl W0 s.heap → va_D A W0 → lv_has ls mL (lv_args 0 av) →
      (∀ (pc : Nat) (ls : Array Slot) (H : Heap) (locs : List Loc), decode cc pc = .ok (.ireturn, 1) → narrow ty (.int r) = .int r → va_P E.1 vwCl W1 H → va_D A W1 → va_S A s.heap H locs → W p l e (rmm f k) s m av.toArray below meth c H locs 0 0 Q (F0 m pc ls [.int r])) →
      W p l e (rmm f k) s m av.toArray below meth c s.heap [] 0 0 Q (F0 m 0 ls [])) : CtI l y cc mL ty f k E av W0 W1 r := by
  intro sz
  refine Met.ofW (cc := cc) (maxL := mL) (ret := some ty) hy rfl ?_
  intro p e s m args below meth c s₁ B hml hv
  obtain ⟨rfl, rfl, hP, hK, hN, hD0⟩ := hv
  have hts := atoms_spec (ws := Cond.code y cc mL (some ty) :: glw) B.pre
  have hown : s.vm.findClass own = some m.cls := ho ▸ findClass_of_methodNamed B.named
  have hlocks := B.notSynchronized
  rw [lg_entry_eq]
  refine body p e s m below meth c (va_A W0 s.heap.size) _ _ ⟨B.exec, B.bytes, hml, hown, fun w h => hts w (List.mem_cons_of_mem _ h), hK, hN⟩ (fun q h => Or.inr h) hP hD0.self (lv_entry av hlen) ?_
  intro pc ls H locs hd hn hP1 hD1 hS
  exact W.zret (v := r) B.exec B.bytes B.returns hn (fun t ht hW => ⟨⟨r, (), rfl, rfl, by rw [ht]; exact hP1, hD1⟩, hS.F ht⟩) hS.2.2 hd hlocks
theorem CtL.of {l : Launch} {y : MethodName} {cc : ByteArray} {mL : Nat} {f k : Nat} {E : EN} {av : List Value} {W0 W1 : va_W} {r : Int64} (own : String) (hy : plainName y.cls = true) (ho : y.cls = own) (hlen : (lg_sl av).length ≤ mL)
    (body : ∀ (p : Program) (e : Env) (s : State) (m : MethodId) (below : List Frame) (meth : Method) (c : Code) (A : Nat → Prop) (Q : State → Prop) (ls : Array Slot), Cx E p s m av.toArray c own cc mL → (∀ q, s.heap.size ≤ q → A q) → va_P E.1 vwCl W0 s.heap → va_D A W0 → lv_has ls mL (lv_args 0 av) →
      (∀ (pc : Nat) (ls : Array Slot) (H : Heap) (locs : List Loc), decode cc pc = .ok (.lreturn, 1) → va_P E.1 vwCl W1 H → va_D A W1 → va_S A s.heap H locs → W p l e (rmm f k) s m av.toArray below meth c H locs 0 0 Q (F0 m pc ls [.long r])) →
      W p l e (rmm f k) s m av.toArray below meth c s.heap [] 0 0 Q (F0 m 0 ls [])) : CtL l y cc mL f k E av W0 W1 r := by
  intro sz
  refine Met.ofW (cc := cc) (maxL := mL) (ret := some .long) hy rfl ?_
  intro p e s m args below meth c s₁ B hml hv
  obtain ⟨rfl, rfl, hP, hK, hN, hD0⟩ := hv
  have hts := atoms_spec (ws := Cond.code y cc mL (some .long) :: glw) B.pre
  have hown : s.vm.findClass own = some m.cls := ho ▸ findClass_of_methodNamed B.named
  have hlocks := B.notSynchronized
  rw [lg_entry_eq]
  refine body p e s m below meth c (va_A W0 s.heap.size) _ _ ⟨B.exec, B.bytes, hml, hown, fun w h => hts w (List.mem_cons_of_mem _ h), hK, hN⟩ (fun q h => Or.inr h) hP hD0.self (lv_entry av hlen) ?_
  intro pc ls H locs hd hP1 hD1 hS
  exact W.lret (v := r) B.exec B.bytes B.returns (fun t ht hW => ⟨⟨r, (), rfl, rfl, by rw [ht]; exact hP1, hD1⟩, hS.F ht⟩) hS.2.2 hd hlocks
theorem CtV.of {l : Launch} {y : MethodName} {cc : ByteArray} {mL : Nat} {f k : Nat} {E : EN} {av : List Value} {W0 W1 : va_W} (own : String) (hy : plainName y.cls = true) (ho : y.cls = own) (hlen : (lg_sl av).length ≤ mL)
    (body : ∀ (p : Program) (e : Env) (s : State) (m : MethodId) (below : List Frame) (meth : Method) (c : Code) (A : Nat → Prop) (Q : State → Prop) (ls : Array Slot), Cx E p s m av.toArray c own cc mL → (∀ q, s.heap.size ≤ q → A q) → va_P E.1 vwCl W0 s.heap → va_D A W0 → lv_has ls mL (lv_args 0 av) →
      (∀ (pc : Nat) (ls : Array Slot) (H : Heap) (locs : List Loc), decode cc pc = .ok (.return_, 1) → va_P E.1 vwCl W1 H → va_D A W1 → va_S A s.heap H locs → W p l e (rmm f k) s m av.toArray below meth c H locs 0 0 Q (F0 m pc ls [])) →
      W p l e (rmm f k) s m av.toArray below meth c s.heap [] 0 0 Q (F0 m 0 ls [])) : CtV l y cc mL f k E av W0 W1 := by
  intro sz
  refine Met.ofW (cc := cc) (maxL := mL) (ret := none) hy rfl ?_
  intro p e s m args below meth c s₁ B hml hv
  obtain ⟨rfl, rfl, hP, hK, hN, hD0⟩ := hv
  have hts := atoms_spec (ws := Cond.code y cc mL none :: glw) B.pre
  have hown : s.vm.findClass own = some m.cls := ho ▸ findClass_of_methodNamed B.named
  have hlocks := B.notSynchronized
  rw [lg_entry_eq]
  refine body p e s m below meth c (va_A W0 s.heap.size) _ _ ⟨B.exec, B.bytes, hml, hown, fun w h => hts w (List.mem_cons_of_mem _ h), hK, hN⟩ (fun q h => Or.inr h) hP hD0.self (lv_entry av hlen) ?_
  intro pc ls H locs hd hP1 hD1 hS
  exact W.vret B.exec B.bytes B.returns (fun t ht hW => ⟨⟨(), rfl, trivial, by rw [ht]; exact hP1, hD1⟩, hS.F ht⟩) hS.2.2 hd hlocks
theorem fm_of {α : Type} {f : Nat → Option α} : ∀ {l : List Nat} {w : List α}, l.map f = w.map some → l.filterMap f = w
  | [], [], _ => rfl
  | [], _ :: _, h => by cases h
  | _ :: _, [], h => by cases h
  | i :: l, a :: w, h => by
    have h1 : f i = some a := (List.cons.inj h).1
    have h2 := (List.cons.inj h).2
    rw [List.filterMap_cons, h1, fm_of h2]
