theorem k_native : Cond.native arraycopyName ∈ glw := k_340
theorem k_acstatic : Cond.static arraycopyName ∈ glw := k_339
theorem k_inisys : Cond.initialized "java/lang/System" ∈ glw := k_52
theorem k_inimath : Cond.initialized "java/lang/Math" ∈ glw := k_51
theorem k_maxstatic : Cond.static Lib.Math.max.name ∈ glw := k_398
theorem k_maxcode : Cond.code Lib.Math.max.name Lib.Math.max.code 2 (some .int) ∈ glw := k_399
theorem k_minstatic : Cond.static Lib.Math.min.name ∈ glw := k_336
theorem k_mincode : Cond.code Lib.Math.min.name Lib.Math.min.code 2 (some .int) ∈ glw := k_337
section Rows
variable {E : EN} {p : Program} {l : Launch} {e : Env} {R : Room} {s : State} {m : MethodId} {args : Array Value} {below : List Frame} {meth : Method} {c : Code} {H : Heap} {locs : List Loc} {cells slots : Nat} {Q : State → Prop} {own : String} {cc : ByteArray} {nL : Nat} {A : Nat → Prop} {ws : va_W} {pc : Nat} {ls : Array Slot} {rest : List Value} {a : Nat}
def inB (i : Int32) (n : Nat) : Bool := decide (0 ≤ i.toInt) && decide (i.toInt < n)
theorem inB_vp {i : Int32} {n : Nat} (h : inB i n = true) : vp_in i n := by
  unfold inB at h
  rw [Bool.and_eq_true, decide_eq_true_eq, decide_eq_true_eq] at h
  exact vp_in_iff.mpr h
def isB (x : Int32) : Bool := decide (x = 0) || decide (x = 1)
theorem isB_nar {x : Int32} (h : isB x = true) : narrow .boolean (.int x) = .int x := by
  unfold isB at h
  rw [Bool.or_eq_true, decide_eq_true_eq, decide_eq_true_eq] at h
  rcases h with rfl | rfl <;> rfl
theorem isB_fit {x : Int32} (h : isB x = true) : fits .boolean (.int x) = true := by
  unfold isB at h
  rw [Bool.or_eq_true, decide_eq_true_eq, decide_eq_true_eq] at h
  rcases h with rfl | rfl <;> rfl
def ck {α : Type} (b : Bool) (x : Option α) : Option α := match b with
  | true => x
  | false => none
theorem ck_t {α : Type} (x : Option α) : ck true x = x := rfl
theorem ck_some {α : Type} {b : Bool} {x : Option α} {r : α} (h : ck b x = some r) : b = true ∧ x = some r := by
  cases b with
  | true => exact ⟨rfl, h⟩
  | false => cases h
theorem if_t {α : Type} {q : Prop} [Decidable q] {x y : α} {r : α} (h : q) (e : (if q then x else y) = r) : x = r := (if_pos h).symm.trans e
theorem if_f {α : Type} {q : Prop} [Decidable q] {x y : α} {r : α} (h : ¬ q) (e : (if q then x else y) = r) : y = r := (if_neg h).symm.trans e
theorem bd_some {α β : Type} {x : Option α} {g : α → Option β} {r : β} (h : x.bind g = some r) : ∃ y, x = some y ∧ g y = some r := Option.bind_eq_some_iff.mp h
theorem r_get (X : Cx E p s m args c own cc nL) (hP : va_P E.1 vwCl ws H) (q0 : Nat) {ci index N : Nat} {T : u_T} {C ref : String} {fs : List Value} (k : Nat) (hc : vwCl[ci]? = some (C, T, N)) (hin : ∀ w ∈ u_ws C T N, w ∈ glw) (he : ws[q0]? = some (a, .inr (ci, fs))) (hk : k < N) (hlink : Cond.fieldLink own index ref (T k).2.1 (T k).2.2.1 ∈ glw) (href : (T k).1 = ref) {v : Value} (hv : fs[k]? = some v) (hdg : decode cc pc = .ok (.getfield index, 3))
    (kk : W p l e R s m args below meth c H locs cells slots Q (F0 m (pc + 3) ls (v :: rest))) : W p l e R s m args below meth c H locs cells slots Q (F0 m pc ls (.ref a :: rest)) :=
  va_get X.1 X.2.1 X.2.2.2.2.1 hin X.2.2.2.1 X.2.2.2.2.2.1 hP q0 he hc k hk (X.2.2.2.2.1 _ hlink) (fun _ h => by rw [← href]; exact h) hv hdg kk
theorem r_put (X : Cx E p s m args c own cc nL) (hP : va_P E.1 vwCl ws H) (hD : va_D A ws) (hS : va_S A s.heap H locs) (q0 : Nat) {ci index N : Nat} {T : u_T} {C ref : String} {fs : List Value} (k : Nat) (hc : vwCl[ci]? = some (C, T, N)) (hin : ∀ w ∈ u_ws C T N, w ∈ glw) (ty0 : Nat → FieldType) (hty : ∀ k, k < N → parseFieldDescriptor (T k).2.2.1 = some (ty0 k)) (hnm : ∀ a, a < N → ∀ b, b < N → a ≠ b → (T a).2.1 ≠ (T b).2.1) (he : ws[q0]? = some (a, .inr (ci, fs))) (hk : k < N) (hlink : Cond.fieldLink own index ref (T k).2.1 (T k).2.2.1 ∈ glw) (href : (T k).1 = ref) (hfin : (T k).2.2.2 = false) {ty : FieldType} {v : Value} (hd : parseFieldDescriptor (T k).2.2.1 = some ty) (hn : narrow ty v = v) (hfit : fits ty v = true) (hl : k < fs.length) {ws' : va_W} (hw : ws.set q0 (a, .inr (ci, fs.set k v)) = ws') (hdg : decode cc pc = .ok (.putfield index, 3))
    (kk : ∀ (H1 : Heap) (locs1 : List Loc), va_P E.1 vwCl ws' H1 → va_D A ws' → va_S A s.heap H1 locs1 → W p l e R s m args below meth c H1 locs1 cells slots Q (F0 m (pc + 3) ls rest)) : W p l e R s m args below meth c H locs cells slots Q (F0 m pc ls (v :: .ref a :: rest)) := by
  subst hw
  exact va_put X.1 X.2.1 X.2.2.2.2.1 hin ty0 hty hnm X.2.2.2.1 X.2.2.2.2.2.1 hP hD hS q0 he hc k hk (X.2.2.2.2.1 _ hlink) (fun _ h => by rw [← href]; exact h) hfin hd hn hfit hl hdg kk
theorem r_iald (X : Cx E p s m args c own cc nL) (hP : va_P E.1 vwCl ws H) (q0 : Nat) {n : Nat} {f : Nat → Int32} (he : ws[q0]? = some (a, e_I E n f)) {i : Int32} (hin : inB i n = true) (hdg : decode cc pc = .ok (.iaload, 1))
    (kk : W p l e R s m args below meth c H locs cells slots Q (F0 m (pc + 1) ls (.int (f i.toNatClampNeg) :: rest))) : W p l e R s m args below meth c H locs cells slots Q (F0 m pc ls (.int i :: .ref a :: rest)) :=
  va_iald X.1 X.2.1 X.2.2.2.2.2.1 hP q0 0 he rfl (inB_vp hin) hdg kk
theorem r_cald (X : Cx E p s m args c own cc nL) (hP : va_P E.1 vwCl ws H) (q0 : Nat) {n : Nat} {f : Nat → Int32} (he : ws[q0]? = some (a, e_C E n f)) {i : Int32} (hin : inB i n = true) (hdg : decode cc pc = .ok (.caload, 1))
    (kk : W p l e R s m args below meth c H locs cells slots Q (F0 m (pc + 1) ls (.int (f i.toNatClampNeg) :: rest))) : W p l e R s m args below meth c H locs cells slots Q (F0 m pc ls (.int i :: .ref a :: rest)) :=
  va_cald X.1 X.2.1 X.2.2.2.2.2.1 hP q0 1 he rfl (inB_vp hin) hdg kk
theorem r_lald (X : Cx E p s m args c own cc nL) (hP : va_P E.1 vwCl ws H) (q0 : Nat) {n : Nat} {f : Nat → Int64} (he : ws[q0]? = some (a, e_J E n f)) {i : Int32} (hin : inB i n = true) (hdg : decode cc pc = .ok (.laload, 1))
    (kk : W p l e R s m args below meth c H locs cells slots Q (F0 m (pc + 1) ls (.long (f i.toNatClampNeg) :: rest))) : W p l e R s m args below meth c H locs cells slots Q (F0 m pc ls (.int i :: .ref a :: rest)) :=
  va_lald X.1 X.2.1 X.2.2.2.2.2.1 hP q0 2 he rfl (inB_vp hin) hdg kk
theorem r_zald (X : Cx E p s m args c own cc nL) (hP : va_P E.1 vwCl ws H) (q0 : Nat) {n : Nat} {f : Nat → Int32} (he : ws[q0]? = some (a, e_Z E n f)) {i : Int32} (hin : inB i n = true) (hdg : decode cc pc = .ok (.baload, 1))
    (kk : W p l e R s m args below meth c H locs cells slots Q (F0 m (pc + 1) ls (.int (f i.toNatClampNeg) :: rest))) : W p l e R s m args below meth c H locs cells slots Q (F0 m pc ls (.int i :: .ref a :: rest)) :=
  va_zald X.1 X.2.1 X.2.2.2.2.2.1 hP q0 3 he rfl (inB_vp hin) hdg kk
theorem r_iast (X : Cx E p s m args c own cc nL) (hP : va_P E.1 vwCl ws H) (hD : va_D A ws) (hS : va_S A s.heap H locs) (q0 : Nat) {n : Nat} {f : Nat → Int32} (he : ws[q0]? = some (a, e_I E n f)) {i : Int32} {x : Int32} (hin : inB i n = true) {ws' : va_W} (hw : ws.set q0 (a, e_I E n (upd f i.toNatClampNeg x)) = ws') (hdg : decode cc pc = .ok (.iastore, 1))
    (kk : ∀ (H1 : Heap) (locs1 : List Loc), va_P E.1 vwCl ws' H1 → va_D A ws' → va_S A s.heap H1 locs1 → W p l e R s m args below meth c H1 locs1 cells slots Q (F0 m (pc + 1) ls rest)) : W p l e R s m args below meth c H locs cells slots Q (F0 m pc ls (.int x :: .int i :: .ref a :: rest)) := by
  subst hw
  exact va_iast X.1 X.2.1 X.2.2.2.2.2.1 hP hD hS q0 0 he rfl (inB_vp hin) hdg kk
theorem r_cast (X : Cx E p s m args c own cc nL) (hP : va_P E.1 vwCl ws H) (hD : va_D A ws) (hS : va_S A s.heap H locs) (q0 : Nat) {n : Nat} {f : Nat → Int32} (he : ws[q0]? = some (a, e_C E n f)) {i : Int32} {x : Int32} (hin : inB i n = true) {ws' : va_W} (hw : ws.set q0 (a, e_C E n (upd f i.toNatClampNeg (vp_nar .char x))) = ws') (hdg : decode cc pc = .ok (.castore, 1))
    (kk : ∀ (H1 : Heap) (locs1 : List Loc), va_P E.1 vwCl ws' H1 → va_D A ws' → va_S A s.heap H1 locs1 → W p l e R s m args below meth c H1 locs1 cells slots Q (F0 m (pc + 1) ls rest)) : W p l e R s m args below meth c H locs cells slots Q (F0 m pc ls (.int x :: .int i :: .ref a :: rest)) := by
  subst hw
  exact va_cast X.1 X.2.1 X.2.2.2.2.2.1 hP hD hS q0 1 he rfl (inB_vp hin) hdg kk
theorem r_last (X : Cx E p s m args c own cc nL) (hP : va_P E.1 vwCl ws H) (hD : va_D A ws) (hS : va_S A s.heap H locs) (q0 : Nat) {n : Nat} {f : Nat → Int64} (he : ws[q0]? = some (a, e_J E n f)) {i : Int32} {x : Int64} (hin : inB i n = true) {ws' : va_W} (hw : ws.set q0 (a, e_J E n (vp_updL f i.toNatClampNeg x)) = ws') (hdg : decode cc pc = .ok (.lastore, 1))
    (kk : ∀ (H1 : Heap) (locs1 : List Loc), va_P E.1 vwCl ws' H1 → va_D A ws' → va_S A s.heap H1 locs1 → W p l e R s m args below meth c H1 locs1 cells slots Q (F0 m (pc + 1) ls rest)) : W p l e R s m args below meth c H locs cells slots Q (F0 m pc ls (.long x :: .int i :: .ref a :: rest)) := by
  subst hw
  exact va_last X.1 X.2.1 X.2.2.2.2.2.1 hP hD hS q0 2 he rfl (inB_vp hin) hdg kk
theorem r_zast (X : Cx E p s m args c own cc nL) (hP : va_P E.1 vwCl ws H) (hD : va_D A ws) (hS : va_S A s.heap H locs) (q0 : Nat) {n : Nat} {f : Nat → Int32} (he : ws[q0]? = some (a, e_Z E n f)) {i : Int32} {x : Int32} (hin : inB i n = true) {ws' : va_W} (hw : ws.set q0 (a, e_Z E n (upd f i.toNatClampNeg (vp_nar .boolean x))) = ws') (hdg : decode cc pc = .ok (.bastore, 1))
    (kk : ∀ (H1 : Heap) (locs1 : List Loc), va_P E.1 vwCl ws' H1 → va_D A ws' → va_S A s.heap H1 locs1 → W p l e R s m args below meth c H1 locs1 cells slots Q (F0 m (pc + 1) ls rest)) : W p l e R s m args below meth c H locs cells slots Q (F0 m pc ls (.int x :: .int i :: .ref a :: rest)) := by
  subst hw
  exact va_zast X.1 X.2.1 X.2.2.2.2.2.1 hP hD hS q0 3 he rfl (inB_vp hin) hdg kk
def okC (sp dp n : Int32) (n0 n1 : Nat) : Bool := decide (0 ≤ sp.toInt) && (decide (0 ≤ dp.toInt) && (decide (0 ≤ n.toInt) && (decide (sp.toNatClampNeg + n.toNatClampNeg ≤ n0) && decide (dp.toNatClampNeg + n.toNatClampNeg ≤ n1))))
theorem okC_of {sp dp n : Int32} {n0 n1 : Nat} (h : okC sp dp n n0 n1 = true) : ¬ sp < 0 ∧ ¬ dp < 0 ∧ ¬ n < 0 ∧ sp.toNatClampNeg + n.toNatClampNeg ≤ n0 ∧ dp.toNatClampNeg + n.toNatClampNeg ≤ n1 := by
  unfold okC at h
  simp only [Bool.and_eq_true, decide_eq_true_eq] at h
  have nl : ∀ z : Int32, 0 ≤ z.toInt → ¬ z < 0 := fun z hz hc => by
    have := Int32.lt_iff_toInt_lt.mp hc
    have h0 : (0 : Int32).toInt = 0 := rfl
    omega
  exact ⟨nl _ h.1, nl _ h.2.1, nl _ h.2.2.1, h.2.2.2.1, h.2.2.2.2⟩
def fitC (f : Nat → Int32) (sp n : Int32) : Bool := (List.range n.toNatClampNeg).all (fun i => fits .char (.int (f (sp.toNatClampNeg + i))))
theorem fitC_of {f : Nat → Int32} {sp n : Int32} (h : fitC f sp n = true) : ∀ i, i < n.toNatClampNeg → fits .char (.int (f (sp.toNatClampNeg + i))) = true := fun i hi => List.all_eq_true.mp h i (List.mem_range.mpr hi)
theorem r_copyI (X : Cx E p s m args c own cc nL) (hsz : ls.size = nL) {index : Nat} (hlink : Cond.methodLink own index arraycopyName ∈ glw) (hP : va_P E.1 vwCl ws H) (hD : va_D A ws) (hS : va_S A s.heap H locs) (q0 q1 : Nat) {a0 n0 n1 : Nat} {f g : Nat → Int32} (he0 : ws[q0]? = some (a0, e_I E n0 f)) (he1 : ws[q1]? = some (a, e_I E n1 g)) {sp dp n : Int32} (hok : okC sp dp n n0 n1 = true) (hfr : 1 ≤ R.frames) (hlo : (rest.map fun v => v.category).sum + (nativeFrameWords "java/lang/System" "arraycopy" 5 + 11) ≤ R.locals) {ws' : va_W} (hw : ws.set q1 (a, e_I E n1 (va_cpy f g sp.toNatClampNeg dp.toNatClampNeg n.toNatClampNeg)) = ws') (hdg : decode cc pc = .ok (.invokestatic index, 3))
    (kk : ∀ (H1 : Heap) (locs1 : List Loc), va_P E.1 vwCl ws' H1 → va_D A ws' → va_S A s.heap H1 locs1 → W p l e R s m args below meth c H1 locs1 cells slots Q (F0 m (pc + 3) ls rest)) : W p l e R s m args below meth c H locs cells slots Q (F0 m pc ls (.int n :: .int dp :: .ref a :: .int sp :: .ref a0 :: rest)) := by
  subst hw
  obtain ⟨h1, h2, h3, h4, h5⟩ := okC_of hok
  exact va_copyi X.1 X.2.1 (X.2.2.1.trans hsz.symm) X.2.2.2.1 (X.2.2.2.2.1 _ hlink) (X.2.2.2.2.1 _ k_native) (X.2.2.2.2.1 _ k_acstatic) (X.2.2.2.2.1 _ k_inisys) X.2.2.2.2.2.1 hP hD hS q0 q1 0 0 he0 he1 rfl rfl rfl h1 h2 h3 h4 h5 (fun _ _ => rfl) hfr hlo hdg kk
theorem r_copyC (X : Cx E p s m args c own cc nL) (hsz : ls.size = nL) {index : Nat} (hlink : Cond.methodLink own index arraycopyName ∈ glw) (hP : va_P E.1 vwCl ws H) (hD : va_D A ws) (hS : va_S A s.heap H locs) (q0 q1 : Nat) {a0 n0 n1 : Nat} {f g : Nat → Int32} (he0 : ws[q0]? = some (a0, e_C E n0 f)) (he1 : ws[q1]? = some (a, e_C E n1 g)) {sp dp n : Int32} (hok : okC sp dp n n0 n1 = true) (hft : fitC f sp n = true) (hfr : 1 ≤ R.frames) (hlo : (rest.map fun v => v.category).sum + (nativeFrameWords "java/lang/System" "arraycopy" 5 + 11) ≤ R.locals) {ws' : va_W} (hw : ws.set q1 (a, e_C E n1 (va_cpy f g sp.toNatClampNeg dp.toNatClampNeg n.toNatClampNeg)) = ws') (hdg : decode cc pc = .ok (.invokestatic index, 3))
    (kk : ∀ (H1 : Heap) (locs1 : List Loc), va_P E.1 vwCl ws' H1 → va_D A ws' → va_S A s.heap H1 locs1 → W p l e R s m args below meth c H1 locs1 cells slots Q (F0 m (pc + 3) ls rest)) : W p l e R s m args below meth c H locs cells slots Q (F0 m pc ls (.int n :: .int dp :: .ref a :: .int sp :: .ref a0 :: rest)) := by
  subst hw
  obtain ⟨h1, h2, h3, h4, h5⟩ := okC_of hok
  exact va_copyi X.1 X.2.1 (X.2.2.1.trans hsz.symm) X.2.2.2.1 (X.2.2.2.2.1 _ hlink) (X.2.2.2.2.1 _ k_native) (X.2.2.2.2.1 _ k_acstatic) (X.2.2.2.2.1 _ k_inisys) X.2.2.2.2.2.1 hP hD hS q0 q1 1 1 he0 he1 rfl rfl rfl h1 h2 h3 h4 h5 (fitC_of hft) hfr hlo hdg kk
theorem r_mmax (X : Cx E p s m args c own cc nL) (hsz : ls.size = nL) {index : Nat} (hlink : Cond.methodLink own index Lib.Math.max.name ∈ glw) (hfr : 1 ≤ R.frames) (hlo : (rest.map fun v => v.category).sum + 13 ≤ R.locals) (hc : cells ≤ R.cells) (hs : slots ≤ R.slots) {x y : Int32} (hdg : decode cc pc = .ok (.invokestatic index, 3))
    (kk : W p l e R s m args below meth c H locs cells slots Q (F0 m (pc + 3) ls (.int (if x < y then y else x) :: rest))) : W p l e R s m args below meth c H locs cells slots Q (F0 m pc ls (.int y :: .int x :: rest)) :=
  va_mmax X.1 X.2.1 (X.2.2.1.trans hsz.symm) X.2.2.2.1 (X.2.2.2.2.1 _ hlink) (X.2.2.2.2.1 _ k_maxstatic) (X.2.2.2.2.1 _ k_inimath) (X.2.2.2.2.1 _ k_maxcode) hfr hlo hc hs hdg kk
theorem r_mmin (X : Cx E p s m args c own cc nL) (hsz : ls.size = nL) {index : Nat} (hlink : Cond.methodLink own index Lib.Math.min.name ∈ glw) (hfr : 1 ≤ R.frames) (hlo : (rest.map fun v => v.category).sum + 13 ≤ R.locals) (hc : cells ≤ R.cells) (hs : slots ≤ R.slots) {x y : Int32} (hdg : decode cc pc = .ok (.invokestatic index, 3))
    (kk : W p l e R s m args below meth c H locs cells slots Q (F0 m (pc + 3) ls (.int (if y < x then y else x) :: rest))) : W p l e R s m args below meth c H locs cells slots Q (F0 m pc ls (.int y :: .int x :: rest)) :=
  va_mmin X.1 X.2.1 (X.2.2.1.trans hsz.symm) X.2.2.2.1 (X.2.2.2.2.1 _ hlink) (X.2.2.2.2.1 _ k_minstatic) (X.2.2.2.2.1 _ k_inimath) (X.2.2.2.2.1 _ k_mincode) hfr hlo hc hs hdg kk
theorem cV_I (X : Cx E p s m args c own cc nL) (hA : ∀ q, s.heap.size ≤ q → A q) (hP : va_P E.1 vwCl ws H) (hD : va_D A ws) (hS : va_S A s.heap H locs) (hsz : ls.size = nL) {y : MethodName} {bytes : ByteArray} {mL f k index : Nat} {ty : FieldType} {b : Nat} {As : List Value} {Wc W1 wr ws' : va_W} {r : Int32} (hM : CtI l y bytes mL ty f k E (.ref b :: As) Wc W1 r) (n : Nat) (hw1 : Cond.methodLink own index y ∈ glw) (hw2 : Cond.instanceMethod y ∈ glw ∧ Cond.selects y.cls y y ∈ glw ∧ Cond.initialized y.cls ∈ glw ∧ Cond.code y bytes mL (some ty) ∈ glw) (hd : y.cls ≠ "java/lang/invoke/MethodHandle" ∧ y.cls ≠ "java/lang/invoke/VarHandle" ∧ (parseMethodDescriptor y.desc).map (fun d => d.parameters.length) = some n) (hR : f + 1 ≤ R.frames ∧ 8 + (mL + 11) + k ≤ R.locals) (isC isR pm : List Nat) (hC : isC.map (fun i => ws[i]?) = Wc.map some) (hCn : va_nd isC = true) (hRr : isR.map (fun i => ws[i]?) = wr.map some) (hRn : va_nd isR = true) (hdis : isR.all (fun i => !isC.contains i) = true) (ci qr : Nat) {q : vw_C} {fs : List Value} (hrc : vwCl[ci]? = some q) (hrn : q.1 = y.cls) (hrv : Wc[qr]? = some (b, .inr (ci, fs))) (hn : As.length = n) {st0 : List Value} (hst : st0 = As.reverse ++ .ref b :: rest) (hrs : (rest.map fun v => v.category).sum ≤ 8) (hpn : va_nd pm = true) (hpm : pm.map (fun i => (wr ++ W1)[i]?) = ws'.map some) (hcs : cells + 0 ≤ R.cells ∧ slots + 0 ≤ R.slots) (hdg : decode cc pc = .ok (.invokevirtual index, 3))
    (kk : ∀ (H1 : Heap) (locs1 : List Loc), va_P E.1 vwCl ws' H1 → va_D A ws' → va_S A s.heap H1 locs1 → W p l e R s m args below meth c H1 locs1 cells slots Q (F0 m (pc + 3) ls (.int r :: rest))) : W p l e R s m args below meth c H locs cells slots Q (F0 m pc ls st0) := by
  have hPc := hP.sub (ws' := Wc) isC (fm_of hC)
  have hDc := hD.sub isC hCn hC
  have hFc := va_free (wc := Wc) hD hS hA isC hC
  have hrm := lv_room (m := m) (pc := pc) (ls := ls) (rest := st0) hrs
  refine va_calli (va_runV (As := As) (rest := rest) ⟨X.1, X.2.1, X.2.2.1, X.2.2.2.1, X.2.2.2.2.1⟩ (hM H.size) ⟨callB_of n X.2.2.2.2.1 (gi_c hw2.2.2.2) rfl rfl rfl (X.2.2.2.2.1 _ hw2.2.2.1) (X.2.2.2.2.1 _ hw1) hd hR, X.2.2.2.2.1 _ hw2.1, X.2.2.2.2.1 _ hw2.2.1⟩ ⟨PreB.blind, hrn ▸ va_recv X.2.2.2.2.2.1 hPc hrc hrv, fun U hU hW => ⟨rfl, by rw [hU], by rw [hU]; exact hPc, va_K.moved hW.alike X.2.2.2.2.2.1, X.2.2.2.2.2.2.warm hW, hDc.weaken (fun _ _ _ _ => trivial)⟩⟩ rfl hn hsz hst hrm hdg ⟨hcs.1, hcs.2⟩) hS (fun q _ h => hFc q h) hFc (fun r9 u t H1 locs1 ht hvm hw hB hz1 hk1 hS1 => ?_)
  subst hw
  obtain ⟨hP1, hD1⟩ := hB
  rw [ht] at hP1
  have hdis' : ∀ i ∈ isR, i ∉ isC := fun i hi hc => by
    have := List.all_eq_true.mp hdis i hi
    rw [List.contains_iff_mem.mpr hc] at this
    cases this
  obtain ⟨hP2, hD2⟩ := va_join hP hD isC isR hC hRr hRn hdis' hk1 hFc hP1 hD1
  exact kk H1 locs1 (hP2.sub pm (fm_of hpm)) (hD2.sub pm hpn hpm) hS1
theorem cV_L (X : Cx E p s m args c own cc nL) (hA : ∀ q, s.heap.size ≤ q → A q) (hP : va_P E.1 vwCl ws H) (hD : va_D A ws) (hS : va_S A s.heap H locs) (hsz : ls.size = nL) {y : MethodName} {bytes : ByteArray} {mL f k index : Nat} {b : Nat} {As : List Value} {Wc W1 wr ws' : va_W} {r : Int64} (hM : CtL l y bytes mL f k E (.ref b :: As) Wc W1 r) (n : Nat) (hw1 : Cond.methodLink own index y ∈ glw) (hw2 : Cond.instanceMethod y ∈ glw ∧ Cond.selects y.cls y y ∈ glw ∧ Cond.initialized y.cls ∈ glw ∧ Cond.code y bytes mL (some .long) ∈ glw) (hd : y.cls ≠ "java/lang/invoke/MethodHandle" ∧ y.cls ≠ "java/lang/invoke/VarHandle" ∧ (parseMethodDescriptor y.desc).map (fun d => d.parameters.length) = some n) (hR : f + 1 ≤ R.frames ∧ 8 + (mL + 11) + k ≤ R.locals) (isC isR pm : List Nat) (hC : isC.map (fun i => ws[i]?) = Wc.map some) (hCn : va_nd isC = true) (hRr : isR.map (fun i => ws[i]?) = wr.map some) (hRn : va_nd isR = true) (hdis : isR.all (fun i => !isC.contains i) = true) (ci qr : Nat) {q : vw_C} {fs : List Value} (hrc : vwCl[ci]? = some q) (hrn : q.1 = y.cls) (hrv : Wc[qr]? = some (b, .inr (ci, fs))) (hn : As.length = n) {st0 : List Value} (hst : st0 = As.reverse ++ .ref b :: rest) (hrs : (rest.map fun v => v.category).sum ≤ 8) (hpn : va_nd pm = true) (hpm : pm.map (fun i => (wr ++ W1)[i]?) = ws'.map some) (hcs : cells + 0 ≤ R.cells ∧ slots + 0 ≤ R.slots) (hdg : decode cc pc = .ok (.invokevirtual index, 3))
    (kk : ∀ (H1 : Heap) (locs1 : List Loc), va_P E.1 vwCl ws' H1 → va_D A ws' → va_S A s.heap H1 locs1 → W p l e R s m args below meth c H1 locs1 cells slots Q (F0 m (pc + 3) ls (.long r :: rest))) : W p l e R s m args below meth c H locs cells slots Q (F0 m pc ls st0) := by
  have hPc := hP.sub (ws' := Wc) isC (fm_of hC)
  have hDc := hD.sub isC hCn hC
  have hFc := va_free (wc := Wc) hD hS hA isC hC
  have hrm := lv_room (m := m) (pc := pc) (ls := ls) (rest := st0) hrs
  refine va_calll (va_runV (As := As) (rest := rest) ⟨X.1, X.2.1, X.2.2.1, X.2.2.2.1, X.2.2.2.2.1⟩ (hM H.size) ⟨callB_of n X.2.2.2.2.1 (gi_c hw2.2.2.2) rfl rfl rfl (X.2.2.2.2.1 _ hw2.2.2.1) (X.2.2.2.2.1 _ hw1) hd hR, X.2.2.2.2.1 _ hw2.1, X.2.2.2.2.1 _ hw2.2.1⟩ ⟨PreB.blind, hrn ▸ va_recv X.2.2.2.2.2.1 hPc hrc hrv, fun U hU hW => ⟨rfl, by rw [hU], by rw [hU]; exact hPc, va_K.moved hW.alike X.2.2.2.2.2.1, X.2.2.2.2.2.2.warm hW, hDc.weaken (fun _ _ _ _ => trivial)⟩⟩ rfl hn hsz hst hrm hdg ⟨hcs.1, hcs.2⟩) hS (fun q _ h => hFc q h) hFc (fun r9 u t H1 locs1 ht hvm hw hB hz1 hk1 hS1 => ?_)
  subst hw
  obtain ⟨hP1, hD1⟩ := hB
  rw [ht] at hP1
  have hdis' : ∀ i ∈ isR, i ∉ isC := fun i hi hc => by
    have := List.all_eq_true.mp hdis i hi
    rw [List.contains_iff_mem.mpr hc] at this
    cases this
  obtain ⟨hP2, hD2⟩ := va_join hP hD isC isR hC hRr hRn hdis' hk1 hFc hP1 hD1
  exact kk H1 locs1 (hP2.sub pm (fm_of hpm)) (hD2.sub pm hpn hpm) hS1
theorem cV_V (X : Cx E p s m args c own cc nL) (hA : ∀ q, s.heap.size ≤ q → A q) (hP : va_P E.1 vwCl ws H) (hD : va_D A ws) (hS : va_S A s.heap H locs) (hsz : ls.size = nL) {y : MethodName} {bytes : ByteArray} {mL f k index : Nat} {b : Nat} {As : List Value} {Wc W1 wr ws' : va_W} (hM : CtV l y bytes mL f k E (.ref b :: As) Wc W1) (n : Nat) (hw1 : Cond.methodLink own index y ∈ glw) (hw2 : Cond.instanceMethod y ∈ glw ∧ Cond.selects y.cls y y ∈ glw ∧ Cond.initialized y.cls ∈ glw ∧ Cond.code y bytes mL none ∈ glw) (hd : y.cls ≠ "java/lang/invoke/MethodHandle" ∧ y.cls ≠ "java/lang/invoke/VarHandle" ∧ (parseMethodDescriptor y.desc).map (fun d => d.parameters.length) = some n) (hR : f + 1 ≤ R.frames ∧ 8 + (mL + 11) + k ≤ R.locals) (isC isR pm : List Nat) (hC : isC.map (fun i => ws[i]?) = Wc.map some) (hCn : va_nd isC = true) (hRr : isR.map (fun i => ws[i]?) = wr.map some) (hRn : va_nd isR = true) (hdis : isR.all (fun i => !isC.contains i) = true) (ci qr : Nat) {q : vw_C} {fs : List Value} (hrc : vwCl[ci]? = some q) (hrn : q.1 = y.cls) (hrv : Wc[qr]? = some (b, .inr (ci, fs))) (hn : As.length = n) {st0 : List Value} (hst : st0 = As.reverse ++ .ref b :: rest) (hrs : (rest.map fun v => v.category).sum ≤ 8) (hpn : va_nd pm = true) (hpm : pm.map (fun i => (wr ++ W1)[i]?) = ws'.map some) (hcs : cells + 0 ≤ R.cells ∧ slots + 0 ≤ R.slots) (hdg : decode cc pc = .ok (.invokevirtual index, 3))
    (kk : ∀ (H1 : Heap) (locs1 : List Loc), va_P E.1 vwCl ws' H1 → va_D A ws' → va_S A s.heap H1 locs1 → W p l e R s m args below meth c H1 locs1 cells slots Q (F0 m (pc + 3) ls (rest))) : W p l e R s m args below meth c H locs cells slots Q (F0 m pc ls st0) := by
  have hPc := hP.sub (ws' := Wc) isC (fm_of hC)
  have hDc := hD.sub isC hCn hC
  have hFc := va_free (wc := Wc) hD hS hA isC hC
  have hrm := lv_room (m := m) (pc := pc) (ls := ls) (rest := st0) hrs
  refine va_callv (va_runV (As := As) (rest := rest) ⟨X.1, X.2.1, X.2.2.1, X.2.2.2.1, X.2.2.2.2.1⟩ (hM H.size) ⟨callB_of n X.2.2.2.2.1 (gi_c hw2.2.2.2) rfl rfl rfl (X.2.2.2.2.1 _ hw2.2.2.1) (X.2.2.2.2.1 _ hw1) hd hR, X.2.2.2.2.1 _ hw2.1, X.2.2.2.2.1 _ hw2.2.1⟩ ⟨PreB.blind, hrn ▸ va_recv X.2.2.2.2.2.1 hPc hrc hrv, fun U hU hW => ⟨rfl, by rw [hU], by rw [hU]; exact hPc, va_K.moved hW.alike X.2.2.2.2.2.1, X.2.2.2.2.2.2.warm hW, hDc.weaken (fun _ _ _ _ => trivial)⟩⟩ rfl hn hsz hst hrm hdg ⟨hcs.1, hcs.2⟩) hS (fun q _ h => hFc q h) hFc (fun u t H1 locs1 ht hvm hw hB hz1 hk1 hS1 => ?_)
  obtain ⟨hP1, hD1⟩ := hB
  rw [ht] at hP1
  have hdis' : ∀ i ∈ isR, i ∉ isC := fun i hi hc => by
    have := List.all_eq_true.mp hdis i hi
    rw [List.contains_iff_mem.mpr hc] at this
    cases this
  obtain ⟨hP2, hD2⟩ := va_join hP hD isC isR hC hRr hRn hdis' hk1 hFc hP1 hD1
  exact kk H1 locs1 (hP2.sub pm (fm_of hpm)) (hD2.sub pm hpn hpm) hS1
theorem cS_I (X : Cx E p s m args c own cc nL) (hA : ∀ q, s.heap.size ≤ q → A q) (hP : va_P E.1 vwCl ws H) (hD : va_D A ws) (hS : va_S A s.heap H locs) (hsz : ls.size = nL) {y : MethodName} {bytes : ByteArray} {mL f k index : Nat} {ty : FieldType} {As : List Value} {Wc W1 wr ws' : va_W} {r : Int32} (hM : CtI l y bytes mL ty f k E As Wc W1 r) (n : Nat) (hw1 : Cond.methodLink own index y ∈ glw) (hw2 : Cond.static y ∈ glw ∧ Cond.initialized y.cls ∈ glw ∧ Cond.code y bytes mL (some ty) ∈ glw) (hd : y.cls ≠ "java/lang/invoke/MethodHandle" ∧ y.cls ≠ "java/lang/invoke/VarHandle" ∧ (parseMethodDescriptor y.desc).map (fun d => d.parameters.length) = some n) (hR : f + 1 ≤ R.frames ∧ 8 + (mL + 11) + k ≤ R.locals) (isC isR pm : List Nat) (hC : isC.map (fun i => ws[i]?) = Wc.map some) (hCn : va_nd isC = true) (hRr : isR.map (fun i => ws[i]?) = wr.map some) (hRn : va_nd isR = true) (hdis : isR.all (fun i => !isC.contains i) = true) (hn : As.length = n) {st0 : List Value} (hst : st0 = As.reverse ++ rest) (hrs : (rest.map fun v => v.category).sum ≤ 8) (hpn : va_nd pm = true) (hpm : pm.map (fun i => (wr ++ W1)[i]?) = ws'.map some) (hcs : cells + 0 ≤ R.cells ∧ slots + 0 ≤ R.slots) (hdg : decode cc pc = .ok (.invokestatic index, 3))
    (kk : ∀ (H1 : Heap) (locs1 : List Loc), va_P E.1 vwCl ws' H1 → va_D A ws' → va_S A s.heap H1 locs1 → W p l e R s m args below meth c H1 locs1 cells slots Q (F0 m (pc + 3) ls (.int r :: rest))) : W p l e R s m args below meth c H locs cells slots Q (F0 m pc ls st0) := by
  have hPc := hP.sub (ws' := Wc) isC (fm_of hC)
  have hDc := hD.sub isC hCn hC
  have hFc := va_free (wc := Wc) hD hS hA isC hC
  have hrm := lv_room (m := m) (pc := pc) (ls := ls) (rest := st0) hrs
  refine va_calli (va_runS (As := As) (rest := rest) ⟨X.1, X.2.1, X.2.2.1, X.2.2.2.1, X.2.2.2.2.1⟩ (hM H.size) ⟨callB_of n X.2.2.2.2.1 (gi_c hw2.2.2) rfl rfl rfl (X.2.2.2.2.1 _ hw2.2.1) (X.2.2.2.2.1 _ hw1) hd hR, X.2.2.2.2.1 _ hw2.1⟩ ⟨PreB.blind, fun U hU hW => ⟨rfl, by rw [hU], by rw [hU]; exact hPc, va_K.moved hW.alike X.2.2.2.2.2.1, X.2.2.2.2.2.2.warm hW, hDc.weaken (fun _ _ _ _ => trivial)⟩⟩ rfl hn hsz hst hrm hdg ⟨hcs.1, hcs.2⟩) hS (fun q _ h => hFc q h) hFc (fun r9 u t H1 locs1 ht hvm hw hB hz1 hk1 hS1 => ?_)
  subst hw
  obtain ⟨hP1, hD1⟩ := hB
  rw [ht] at hP1
  have hdis' : ∀ i ∈ isR, i ∉ isC := fun i hi hc => by
    have := List.all_eq_true.mp hdis i hi
    rw [List.contains_iff_mem.mpr hc] at this
    cases this
  obtain ⟨hP2, hD2⟩ := va_join hP hD isC isR hC hRr hRn hdis' hk1 hFc hP1 hD1
  exact kk H1 locs1 (hP2.sub pm (fm_of hpm)) (hD2.sub pm hpn hpm) hS1
theorem cS_L (X : Cx E p s m args c own cc nL) (hA : ∀ q, s.heap.size ≤ q → A q) (hP : va_P E.1 vwCl ws H) (hD : va_D A ws) (hS : va_S A s.heap H locs) (hsz : ls.size = nL) {y : MethodName} {bytes : ByteArray} {mL f k index : Nat} {As : List Value} {Wc W1 wr ws' : va_W} {r : Int64} (hM : CtL l y bytes mL f k E As Wc W1 r) (n : Nat) (hw1 : Cond.methodLink own index y ∈ glw) (hw2 : Cond.static y ∈ glw ∧ Cond.initialized y.cls ∈ glw ∧ Cond.code y bytes mL (some .long) ∈ glw) (hd : y.cls ≠ "java/lang/invoke/MethodHandle" ∧ y.cls ≠ "java/lang/invoke/VarHandle" ∧ (parseMethodDescriptor y.desc).map (fun d => d.parameters.length) = some n) (hR : f + 1 ≤ R.frames ∧ 8 + (mL + 11) + k ≤ R.locals) (isC isR pm : List Nat) (hC : isC.map (fun i => ws[i]?) = Wc.map some) (hCn : va_nd isC = true) (hRr : isR.map (fun i => ws[i]?) = wr.map some) (hRn : va_nd isR = true) (hdis : isR.all (fun i => !isC.contains i) = true) (hn : As.length = n) {st0 : List Value} (hst : st0 = As.reverse ++ rest) (hrs : (rest.map fun v => v.category).sum ≤ 8) (hpn : va_nd pm = true) (hpm : pm.map (fun i => (wr ++ W1)[i]?) = ws'.map some) (hcs : cells + 0 ≤ R.cells ∧ slots + 0 ≤ R.slots) (hdg : decode cc pc = .ok (.invokestatic index, 3))
    (kk : ∀ (H1 : Heap) (locs1 : List Loc), va_P E.1 vwCl ws' H1 → va_D A ws' → va_S A s.heap H1 locs1 → W p l e R s m args below meth c H1 locs1 cells slots Q (F0 m (pc + 3) ls (.long r :: rest))) : W p l e R s m args below meth c H locs cells slots Q (F0 m pc ls st0) := by
  have hPc := hP.sub (ws' := Wc) isC (fm_of hC)
  have hDc := hD.sub isC hCn hC
  have hFc := va_free (wc := Wc) hD hS hA isC hC
  have hrm := lv_room (m := m) (pc := pc) (ls := ls) (rest := st0) hrs
  refine va_calll (va_runS (As := As) (rest := rest) ⟨X.1, X.2.1, X.2.2.1, X.2.2.2.1, X.2.2.2.2.1⟩ (hM H.size) ⟨callB_of n X.2.2.2.2.1 (gi_c hw2.2.2) rfl rfl rfl (X.2.2.2.2.1 _ hw2.2.1) (X.2.2.2.2.1 _ hw1) hd hR, X.2.2.2.2.1 _ hw2.1⟩ ⟨PreB.blind, fun U hU hW => ⟨rfl, by rw [hU], by rw [hU]; exact hPc, va_K.moved hW.alike X.2.2.2.2.2.1, X.2.2.2.2.2.2.warm hW, hDc.weaken (fun _ _ _ _ => trivial)⟩⟩ rfl hn hsz hst hrm hdg ⟨hcs.1, hcs.2⟩) hS (fun q _ h => hFc q h) hFc (fun r9 u t H1 locs1 ht hvm hw hB hz1 hk1 hS1 => ?_)
  subst hw
  obtain ⟨hP1, hD1⟩ := hB
  rw [ht] at hP1
  have hdis' : ∀ i ∈ isR, i ∉ isC := fun i hi hc => by
    have := List.all_eq_true.mp hdis i hi
    rw [List.contains_iff_mem.mpr hc] at this
    cases this
  obtain ⟨hP2, hD2⟩ := va_join hP hD isC isR hC hRr hRn hdis' hk1 hFc hP1 hD1
  exact kk H1 locs1 (hP2.sub pm (fm_of hpm)) (hD2.sub pm hpn hpm) hS1
theorem cS_V (X : Cx E p s m args c own cc nL) (hA : ∀ q, s.heap.size ≤ q → A q) (hP : va_P E.1 vwCl ws H) (hD : va_D A ws) (hS : va_S A s.heap H locs) (hsz : ls.size = nL) {y : MethodName} {bytes : ByteArray} {mL f k index : Nat} {As : List Value} {Wc W1 wr ws' : va_W} (hM : CtV l y bytes mL f k E As Wc W1) (n : Nat) (hw1 : Cond.methodLink own index y ∈ glw) (hw2 : Cond.static y ∈ glw ∧ Cond.initialized y.cls ∈ glw ∧ Cond.code y bytes mL none ∈ glw) (hd : y.cls ≠ "java/lang/invoke/MethodHandle" ∧ y.cls ≠ "java/lang/invoke/VarHandle" ∧ (parseMethodDescriptor y.desc).map (fun d => d.parameters.length) = some n) (hR : f + 1 ≤ R.frames ∧ 8 + (mL + 11) + k ≤ R.locals) (isC isR pm : List Nat) (hC : isC.map (fun i => ws[i]?) = Wc.map some) (hCn : va_nd isC = true) (hRr : isR.map (fun i => ws[i]?) = wr.map some) (hRn : va_nd isR = true) (hdis : isR.all (fun i => !isC.contains i) = true) (hn : As.length = n) {st0 : List Value} (hst : st0 = As.reverse ++ rest) (hrs : (rest.map fun v => v.category).sum ≤ 8) (hpn : va_nd pm = true) (hpm : pm.map (fun i => (wr ++ W1)[i]?) = ws'.map some) (hcs : cells + 0 ≤ R.cells ∧ slots + 0 ≤ R.slots) (hdg : decode cc pc = .ok (.invokestatic index, 3))
    (kk : ∀ (H1 : Heap) (locs1 : List Loc), va_P E.1 vwCl ws' H1 → va_D A ws' → va_S A s.heap H1 locs1 → W p l e R s m args below meth c H1 locs1 cells slots Q (F0 m (pc + 3) ls (rest))) : W p l e R s m args below meth c H locs cells slots Q (F0 m pc ls st0) := by
  have hPc := hP.sub (ws' := Wc) isC (fm_of hC)
  have hDc := hD.sub isC hCn hC
  have hFc := va_free (wc := Wc) hD hS hA isC hC
  have hrm := lv_room (m := m) (pc := pc) (ls := ls) (rest := st0) hrs
  refine va_callv (va_runS (As := As) (rest := rest) ⟨X.1, X.2.1, X.2.2.1, X.2.2.2.1, X.2.2.2.2.1⟩ (hM H.size) ⟨callB_of n X.2.2.2.2.1 (gi_c hw2.2.2) rfl rfl rfl (X.2.2.2.2.1 _ hw2.2.1) (X.2.2.2.2.1 _ hw1) hd hR, X.2.2.2.2.1 _ hw2.1⟩ ⟨PreB.blind, fun U hU hW => ⟨rfl, by rw [hU], by rw [hU]; exact hPc, va_K.moved hW.alike X.2.2.2.2.2.1, X.2.2.2.2.2.2.warm hW, hDc.weaken (fun _ _ _ _ => trivial)⟩⟩ rfl hn hsz hst hrm hdg ⟨hcs.1, hcs.2⟩) hS (fun q _ h => hFc q h) hFc (fun u t H1 locs1 ht hvm hw hB hz1 hk1 hS1 => ?_)
  obtain ⟨hP1, hD1⟩ := hB
  rw [ht] at hP1
  have hdis' : ∀ i ∈ isR, i ∉ isC := fun i hi hc => by
    have := List.all_eq_true.mp hdis i hi
    rw [List.contains_iff_mem.mpr hc] at this
    cases this
  obtain ⟨hP2, hD2⟩ := va_join hP hD isC isR hC hRr hRn hdis' hk1 hFc hP1 hD1
  exact kk H1 locs1 (hP2.sub pm (fm_of hpm)) (hD2.sub pm hpn hpm) hS1
theorem cN_I (X : Cx E p s m args c own cc nL) (hA : ∀ q, s.heap.size ≤ q → A q) (hP : va_P E.1 vwCl ws H) (hD : va_D A ws) (hS : va_S A s.heap H locs) (hsz : ls.size = nL) {y : MethodName} {bytes : ByteArray} {mL f k index : Nat} {ty : FieldType} {As : List Value} {Wc W1 wr ws' : va_W} {r : Int32} (hM : CtI l y bytes mL ty f k E As Wc W1 r) (n : Nat) {host : String} (hw1 : va_Nw (.methodLinkNest own index y host) s) (hw2 : Cond.static y ∈ glw ∧ Cond.initialized y.cls ∈ glw ∧ Cond.code y bytes mL (some ty) ∈ glw) (hd : y.cls ≠ "java/lang/invoke/MethodHandle" ∧ y.cls ≠ "java/lang/invoke/VarHandle" ∧ (parseMethodDescriptor y.desc).map (fun d => d.parameters.length) = some n) (hR : f + 1 ≤ R.frames ∧ 8 + (mL + 11) + k ≤ R.locals) (isC isR pm : List Nat) (hC : isC.map (fun i => ws[i]?) = Wc.map some) (hCn : va_nd isC = true) (hRr : isR.map (fun i => ws[i]?) = wr.map some) (hRn : va_nd isR = true) (hdis : isR.all (fun i => !isC.contains i) = true) (hn : As.length = n) {st0 : List Value} (hst : st0 = As.reverse ++ rest) (hrs : (rest.map fun v => v.category).sum ≤ 8) (hpn : va_nd pm = true) (hpm : pm.map (fun i => (wr ++ W1)[i]?) = ws'.map some) (hcs : cells + 0 ≤ R.cells ∧ slots + 0 ≤ R.slots) (hdg : decode cc pc = .ok (.invokestatic index, 3))
    (kk : ∀ (H1 : Heap) (locs1 : List Loc), va_P E.1 vwCl ws' H1 → va_D A ws' → va_S A s.heap H1 locs1 → W p l e R s m args below meth c H1 locs1 cells slots Q (F0 m (pc + 3) ls (.int r :: rest))) : W p l e R s m args below meth c H locs cells slots Q (F0 m pc ls st0) := by
  have hPc := hP.sub (ws' := Wc) isC (fm_of hC)
  have hDc := hD.sub isC hCn hC
  have hFc := va_free (wc := Wc) hD hS hA isC hC
  have hrm := lv_room (m := m) (pc := pc) (ls := ls) (rest := st0) hrs
  refine va_calli (va_runSN (As := As) (rest := rest) ⟨X.1, X.2.1, X.2.2.1, X.2.2.2.1, X.2.2.2.2.1⟩ (hM H.size) ⟨va_cnB n X.2.2.2.2.1 (gi_c hw2.2.2) rfl rfl rfl hw1 (X.2.2.2.2.1 _ hw2.2.1) hd hR, X.2.2.2.2.1 _ hw2.1, trivial⟩ ⟨PreB.blind, fun U hU hW => ⟨rfl, by rw [hU], by rw [hU]; exact hPc, va_K.moved hW.alike X.2.2.2.2.2.1, X.2.2.2.2.2.2.warm hW, hDc.weaken (fun _ _ _ _ => trivial)⟩⟩ rfl hn hsz hst hrm hdg ⟨hcs.1, hcs.2⟩) hS (fun q _ h => hFc q h) hFc (fun r9 u t H1 locs1 ht hvm hw hB hz1 hk1 hS1 => ?_)
  subst hw
  obtain ⟨hP1, hD1⟩ := hB
  rw [ht] at hP1
  have hdis' : ∀ i ∈ isR, i ∉ isC := fun i hi hc => by
    have := List.all_eq_true.mp hdis i hi
    rw [List.contains_iff_mem.mpr hc] at this
    cases this
  obtain ⟨hP2, hD2⟩ := va_join hP hD isC isR hC hRr hRn hdis' hk1 hFc hP1 hD1
  exact kk H1 locs1 (hP2.sub pm (fm_of hpm)) (hD2.sub pm hpn hpm) hS1
end Rows
