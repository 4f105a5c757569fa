def jlushr (x : Int64) (y : Int32) : Int64 := (x.toUInt64 >>> (y.toInt64.toUInt64 &&& Int64.toUInt64 63)).toInt64
def jlshl (x : Int64) (y : Int32) : Int64 := x <<< (y.toInt64 &&& 63)
def jiushr (x y : Int32) : Int32 := (x.toUInt32 >>> (y.toUInt32 &&& Int32.toUInt32 31)).toInt32
def ji2c (x : Int32) : Int32 := (x.toUInt32 % 65536).toInt32
def FU : Nat := 200000
abbrev ix (i : Int32) : Nat := i.toNatClampNeg
theorem r_aald {E : EN} {p : Program} {l : Launch} {e : Env} {R : Room} {s : State} {m : MethodId} {args : Array Value} {below : List Frame} {meth : Method} {c : Code} {H : Heap} {locs : List Loc} {cells slots : Nat} {Q : State → Prop} {own : String} {cc : ByteArray} {nL : Nat} {ws : va_W} {pc : Nat} {ls : Array Slot} {rest : List Value} {a : Nat} (X : Cx E p s m args c own cc nL) (hP : va_P E.1 vwCl ws H) (q0 : Nat) {n : Nat} {f : Nat → Option Nat} (he : ws[q0]? = some (a, e_T E n f)) {i : Int32} (hin : inB i n = true) {v : Nat} (hv : f i.toNatClampNeg = some v) (hdg : decode cc pc = .ok (.aaload, 1))
    (kk : W p l e R s m args below meth c H locs cells slots Q (F0 m (pc + 1) ls (.ref v :: rest))) : W p l e R s m args below meth c H locs cells slots Q (F0 m pc ls (.int i :: .ref a :: rest)) :=
  va_aldq X.1 X.2.1 X.2.2.2.2.2.1 hP q0 4 he rfl (inB_vp hin) hdg (by rw [hv]; exact kk)
