abbrev wd_J13_bitCount_95d88 (E : EN)   : va_W := []
def f_J13_bitCount_95d88_55  (v0 : Int64) : Option (Int32) :=
  some (v0.toInt32 &&& (127 : Int32))
def f_J13_bitCount_95d88_48  (v0 : Int64) : Option (Int32) :=
  f_J13_bitCount_95d88_55 (v0 + (jlushr v0 (32 : Int32)))
def f_J13_bitCount_95d88_41  (v0 : Int64) : Option (Int32) :=
  f_J13_bitCount_95d88_48 (v0 + (jlushr v0 (16 : Int32)))
def f_J13_bitCount_95d88_34  (v0 : Int64) : Option (Int32) :=
  f_J13_bitCount_95d88_41 (v0 + (jlushr v0 (8 : Int32)))
def f_J13_bitCount_95d88_24  (v0 : Int64) : Option (Int32) :=
  f_J13_bitCount_95d88_34 ((v0 + (jlushr v0 (4 : Int32))) &&& (1085102592571150095 : Int64))
def f_J13_bitCount_95d88_10  (v0 : Int64) : Option (Int32) :=
  f_J13_bitCount_95d88_24 ((v0 &&& (3689348814741910323 : Int64)) + ((jlushr v0 (2 : Int32)) &&& (3689348814741910323 : Int64)))
def f_J13_bitCount_95d88 (p1 : Int64) : Option (Int32) :=
  f_J13_bitCount_95d88_10 (p1 - ((jlushr p1 (1 : Int32)) &&& (6148914691236517205 : Int64)))
set_option maxHeartbeats 4000000 in
set_option maxRecDepth 100000 in
theorem c_J13_bitCount_95d88 (l : Launch) (E : EN)  (p1 : Int64) (res : Int32) (hf : f_J13_bitCount_95d88 p1 = some res) : CtI l yJ13_bitCount_95d88 cJ13_bitCount_95d88 2 .int 0 0 E [.long p1] (wd_J13_bitCount_95d88 E) (wd_J13_bitCount_95d88 E) res := by
  refine CtI.of RJ13 (by decide) rfl (Nat.le_of_ble_eq_true rfl) ?_
  intro p e s m below meth c A Q ls X hA hP hD hl fin
  have hx := X.1
  have hb := X.2.1
  have hl : lv_has ls 2 [(0, .long p1)] := hl
  have fin' : ∀ (fr0 : Int32), some fr0 = some res → ∀ (pc : Nat) (ls : Array Slot) (H : Heap) (locs : List Loc), decode cJ13_bitCount_95d88 pc = .ok (.ireturn, 1) → narrow .int (.int fr0) = .int fr0 → va_P E.1 vwCl (wd_J13_bitCount_95d88 E) H → va_D A (wd_J13_bitCount_95d88 E) → va_S A s.heap H locs → W p l e (rmm 0 0) s m ([.long p1] : List Value).toArray below meth c H locs 0 0 Q (F0 m pc ls [.int fr0]) := by
    intro fr0 he
    cases he
    exact fin
  have L55 : ∀ (v0 : Int64), f_J13_bitCount_95d88_55 v0 = some res → ∀ (H : Heap) (locs : List Loc) (ls : Array Slot), va_P E.1 vwCl (wd_J13_bitCount_95d88 E) H → va_D A (wd_J13_bitCount_95d88 E) → va_S A s.heap H locs → lv_has ls 2 [(0, .long v0)] → W p l e (rmm 0 0) s m ([.long p1] : List Value).toArray below meth c H locs 0 0 Q (F0 m 55 ls []) := by
    intro v0 hf H locs ls hP hD hS hl
    rw [f_J13_bitCount_95d88_55] at hf
    refine lv_lload_n hx hb dJ13_bitCount_95d88_55 rfl (lv_at hl 0 rfl) ?_
    refine lv_l2i (v := v0.toInt32) hx hb dJ13_bitCount_95d88_56 rfl ?_
    refine lv_bipush (v := (127 : Int32)) hx hb dJ13_bitCount_95d88_57 (by decide) ?_
    refine lv_iand hx hb dJ13_bitCount_95d88_59 ?_
    exact fin' _ hf 60 ls H locs dJ13_bitCount_95d88_60 rfl hP hD hS
  have L48 : ∀ (v0 : Int64), f_J13_bitCount_95d88_48 v0 = some res → ∀ (H : Heap) (locs : List Loc) (ls : Array Slot), va_P E.1 vwCl (wd_J13_bitCount_95d88 E) H → va_D A (wd_J13_bitCount_95d88 E) → va_S A s.heap H locs → lv_has ls 2 [(0, .long v0)] → W p l e (rmm 0 0) s m ([.long p1] : List Value).toArray below meth c H locs 0 0 Q (F0 m 48 ls []) := by
    intro v0 hf H locs ls hP hD hS hl
    rw [f_J13_bitCount_95d88_48] at hf
    refine lv_lload_n hx hb dJ13_bitCount_95d88_48 rfl (lv_at hl 0 rfl) ?_
    refine lv_lload_n hx hb dJ13_bitCount_95d88_49 rfl (lv_at hl 0 rfl) ?_
    refine lv_bipush (v := (32 : Int32)) hx hb dJ13_bitCount_95d88_50 (by decide) ?_
    refine lv_lushr (v := (jlushr v0 (32 : Int32))) hx hb dJ13_bitCount_95d88_52 rfl ?_
    refine lv_ladd hx hb dJ13_bitCount_95d88_53 ?_
    refine lv_lstore_n (lv' := [(0, .long (v0 + (jlushr v0 (32 : Int32))))]) hx hb dJ13_bitCount_95d88_54 rfl hl (by decide) rfl (fun ls hl => ?_)
    exact L55 (v0 + (jlushr v0 (32 : Int32))) hf H locs ls hP hD hS (lv_sub hl [0] rfl)
  have L41 : ∀ (v0 : Int64), f_J13_bitCount_95d88_41 v0 = some res → ∀ (H : Heap) (locs : List Loc) (ls : Array Slot), va_P E.1 vwCl (wd_J13_bitCount_95d88 E) H → va_D A (wd_J13_bitCount_95d88 E) → va_S A s.heap H locs → lv_has ls 2 [(0, .long v0)] → W p l e (rmm 0 0) s m ([.long p1] : List Value).toArray below meth c H locs 0 0 Q (F0 m 41 ls []) := by
    intro v0 hf H locs ls hP hD hS hl
    rw [f_J13_bitCount_95d88_41] at hf
    refine lv_lload_n hx hb dJ13_bitCount_95d88_41 rfl (lv_at hl 0 rfl) ?_
    refine lv_lload_n hx hb dJ13_bitCount_95d88_42 rfl (lv_at hl 0 rfl) ?_
    refine lv_bipush (v := (16 : Int32)) hx hb dJ13_bitCount_95d88_43 (by decide) ?_
    refine lv_lushr (v := (jlushr v0 (16 : Int32))) hx hb dJ13_bitCount_95d88_45 rfl ?_
    refine lv_ladd hx hb dJ13_bitCount_95d88_46 ?_
    refine lv_lstore_n (lv' := [(0, .long (v0 + (jlushr v0 (16 : Int32))))]) hx hb dJ13_bitCount_95d88_47 rfl hl (by decide) rfl (fun ls hl => ?_)
    exact L48 (v0 + (jlushr v0 (16 : Int32))) hf H locs ls hP hD hS (lv_sub hl [0] rfl)
  have L34 : ∀ (v0 : Int64), f_J13_bitCount_95d88_34 v0 = some res → ∀ (H : Heap) (locs : List Loc) (ls : Array Slot), va_P E.1 vwCl (wd_J13_bitCount_95d88 E) H → va_D A (wd_J13_bitCount_95d88 E) → va_S A s.heap H locs → lv_has ls 2 [(0, .long v0)] → W p l e (rmm 0 0) s m ([.long p1] : List Value).toArray below meth c H locs 0 0 Q (F0 m 34 ls []) := by
    intro v0 hf H locs ls hP hD hS hl
    rw [f_J13_bitCount_95d88_34] at hf
    refine lv_lload_n hx hb dJ13_bitCount_95d88_34 rfl (lv_at hl 0 rfl) ?_
    refine lv_lload_n hx hb dJ13_bitCount_95d88_35 rfl (lv_at hl 0 rfl) ?_
    refine lv_bipush (v := (8 : Int32)) hx hb dJ13_bitCount_95d88_36 (by decide) ?_
    refine lv_lushr (v := (jlushr v0 (8 : Int32))) hx hb dJ13_bitCount_95d88_38 rfl ?_
    refine lv_ladd hx hb dJ13_bitCount_95d88_39 ?_
    refine lv_lstore_n (lv' := [(0, .long (v0 + (jlushr v0 (8 : Int32))))]) hx hb dJ13_bitCount_95d88_40 rfl hl (by decide) rfl (fun ls hl => ?_)
    exact L41 (v0 + (jlushr v0 (8 : Int32))) hf H locs ls hP hD hS (lv_sub hl [0] rfl)
  have L24 : ∀ (v0 : Int64), f_J13_bitCount_95d88_24 v0 = some res → ∀ (H : Heap) (locs : List Loc) (ls : Array Slot), va_P E.1 vwCl (wd_J13_bitCount_95d88 E) H → va_D A (wd_J13_bitCount_95d88 E) → va_S A s.heap H locs → lv_has ls 2 [(0, .long v0)] → W p l e (rmm 0 0) s m ([.long p1] : List Value).toArray below meth c H locs 0 0 Q (F0 m 24 ls []) := by
    intro v0 hf H locs ls hP hD hS hl
    rw [f_J13_bitCount_95d88_24] at hf
    refine lv_lload_n hx hb dJ13_bitCount_95d88_24 rfl (lv_at hl 0 rfl) ?_
    refine lv_lload_n hx hb dJ13_bitCount_95d88_25 rfl (lv_at hl 0 rfl) ?_
    refine lv_iconst (v := (4 : Int32)) hx hb dJ13_bitCount_95d88_26 (by decide) ?_
    refine lv_lushr (v := (jlushr v0 (4 : Int32))) hx hb dJ13_bitCount_95d88_27 rfl ?_
    refine lv_ladd hx hb dJ13_bitCount_95d88_28 ?_
    refine lv_ldc2 (v := (1085102592571150095 : Int64)) hx hb X.2.2.2.1 (X.2.2.2.2.1 _ k_413) dJ13_bitCount_95d88_29 ?_
    refine lv_land hx hb dJ13_bitCount_95d88_32 ?_
    refine lv_lstore_n (lv' := [(0, .long ((v0 + (jlushr v0 (4 : Int32))) &&& (1085102592571150095 : Int64)))]) hx hb dJ13_bitCount_95d88_33 rfl hl (by decide) rfl (fun ls hl => ?_)
    exact L34 ((v0 + (jlushr v0 (4 : Int32))) &&& (1085102592571150095 : Int64)) hf H locs ls hP hD hS (lv_sub hl [0] rfl)
  have L10 : ∀ (v0 : Int64), f_J13_bitCount_95d88_10 v0 = some res → ∀ (H : Heap) (locs : List Loc) (ls : Array Slot), va_P E.1 vwCl (wd_J13_bitCount_95d88 E) H → va_D A (wd_J13_bitCount_95d88 E) → va_S A s.heap H locs → lv_has ls 2 [(0, .long v0)] → W p l e (rmm 0 0) s m ([.long p1] : List Value).toArray below meth c H locs 0 0 Q (F0 m 10 ls []) := by
    intro v0 hf H locs ls hP hD hS hl
    rw [f_J13_bitCount_95d88_10] at hf
    refine lv_lload_n hx hb dJ13_bitCount_95d88_10 rfl (lv_at hl 0 rfl) ?_
    refine lv_ldc2 (v := (3689348814741910323 : Int64)) hx hb X.2.2.2.1 (X.2.2.2.2.1 _ k_412) dJ13_bitCount_95d88_11 ?_
    refine lv_land hx hb dJ13_bitCount_95d88_14 ?_
    refine lv_lload_n hx hb dJ13_bitCount_95d88_15 rfl (lv_at hl 0 rfl) ?_
    refine lv_iconst (v := (2 : Int32)) hx hb dJ13_bitCount_95d88_16 (by decide) ?_
    refine lv_lushr (v := (jlushr v0 (2 : Int32))) hx hb dJ13_bitCount_95d88_17 rfl ?_
    refine lv_ldc2 (v := (3689348814741910323 : Int64)) hx hb X.2.2.2.1 (X.2.2.2.2.1 _ k_412) dJ13_bitCount_95d88_18 ?_
    refine lv_land hx hb dJ13_bitCount_95d88_21 ?_
    refine lv_ladd hx hb dJ13_bitCount_95d88_22 ?_
    refine lv_lstore_n (lv' := [(0, .long ((v0 &&& (3689348814741910323 : Int64)) + ((jlushr v0 (2 : Int32)) &&& (3689348814741910323 : Int64))))]) hx hb dJ13_bitCount_95d88_23 rfl hl (by decide) rfl (fun ls hl => ?_)
    exact L24 ((v0 &&& (3689348814741910323 : Int64)) + ((jlushr v0 (2 : Int32)) &&& (3689348814741910323 : Int64))) hf H locs ls hP hD hS (lv_sub hl [0] rfl)
  have hS : va_S A s.heap s.heap [] := va_S.rf
  obtain ⟨H, hH9⟩ : ∃ z, z = s.heap := ⟨_, rfl⟩
  obtain ⟨locs, hL9⟩ : ∃ z : List Loc, z = [] := ⟨_, rfl⟩
  rw [← hL9]
  rw [← hL9] at hS
  have hP : va_P E.1 vwCl (wd_J13_bitCount_95d88 E) H := by rw [hH9]; exact hP
  have hS : va_S A s.heap H locs := by rw [hH9]; exact hS
  suffices hgoal : W p l e (rmm 0 0) s m ([.long p1] : List Value).toArray below meth c H locs 0 0 Q (F0 m 0 ls []) by rw [hH9] at hgoal; exact hgoal
  rw [f_J13_bitCount_95d88] at hf
  refine lv_lload_n hx hb dJ13_bitCount_95d88_0 rfl (lv_at hl 0 rfl) ?_
  refine lv_lload_n hx hb dJ13_bitCount_95d88_1 rfl (lv_at hl 0 rfl) ?_
  refine lv_iconst (v := (1 : Int32)) hx hb dJ13_bitCount_95d88_2 (by decide) ?_
  refine lv_lushr (v := (jlushr p1 (1 : Int32))) hx hb dJ13_bitCount_95d88_3 rfl ?_
  refine lv_ldc2 (v := (6148914691236517205 : Int64)) hx hb X.2.2.2.1 (X.2.2.2.2.1 _ k_411) dJ13_bitCount_95d88_4 ?_
  refine lv_land hx hb dJ13_bitCount_95d88_7 ?_
  refine lv_lsub hx hb dJ13_bitCount_95d88_8 ?_
  refine lv_lstore_n (lv' := [(0, .long (p1 - ((jlushr p1 (1 : Int32)) &&& (6148914691236517205 : Int64))))]) hx hb dJ13_bitCount_95d88_9 rfl hl (by decide) rfl (fun ls hl => ?_)
  exact L10 (p1 - ((jlushr p1 (1 : Int32)) &&& (6148914691236517205 : Int64))) hf H locs ls hP hD hS (lv_sub hl [0] rfl)
abbrev wd_J7_fill_d0a16 (E : EN) (a_p1 : Nat) (x_p1 : Nat → Int64) : va_W := [(a_p1, e_J E 1024 x_p1)]
def f_J7_fill_d0a16_6 (p2 : Int64)  : Nat → Int32 → Int32 → (Nat → Int64) → Option ((Nat → Int64))
  | 0, _, _, _ => none
  | n_ + 1, v3, v4, m_p1 =>
    if v4 ≤ v3 then
      some m_p1
    else
      ck (inB v3 1024) (
      f_J7_fill_d0a16_6 p2 n_ (v3 + (1 : Int32)) v4 (vp_updL m_p1 (ix v3) p2))
def f_J7_fill_d0a16 (p2 : Int64) (x_p1 : Nat → Int64) : Option ((Nat → Int64)) :=
  f_J7_fill_d0a16_6 p2 FU (0 : Int32) (1024 : Int32) x_p1
set_option maxHeartbeats 4000000 in
set_option maxRecDepth 100000 in
theorem c_J7_fill_d0a16 (l : Launch) (E : EN) (a_p1 : Nat) (x_p1 : Nat → Int64) (p2 : Int64) (res : (Nat → Int64)) (hf : f_J7_fill_d0a16 p2 x_p1 = some res) : CtV l yJ7_fill_d0a16 cJ7_fill_d0a16 5 0 0 E [.ref a_p1, .long p2] (wd_J7_fill_d0a16 E a_p1 x_p1) (wd_J7_fill_d0a16 E a_p1 res) := by
  refine CtV.of RJ7 (by decide) rfl (Nat.le_of_ble_eq_true rfl) ?_
  intro p e s m below meth c A Q ls X hA hP hD hl fin
  have hx := X.1
  have hb := X.2.1
  have hl : lv_has ls 5 [(0, .ref a_p1), (1, .long p2)] := hl
  have fin' : ∀ (fr0 : (Nat → Int64)), some fr0 = some res → ∀ (pc : Nat) (ls : Array Slot) (H : Heap) (locs : List Loc), decode cJ7_fill_d0a16 pc = .ok (.return_, 1) → va_P E.1 vwCl (wd_J7_fill_d0a16 E a_p1 fr0) H → va_D A (wd_J7_fill_d0a16 E a_p1 fr0) → va_S A s.heap H locs → W p l e (rmm 0 0) s m ([.ref a_p1, .long p2] : List Value).toArray below meth c H locs 0 0 Q (F0 m pc ls []) := by
    intro fr0 he
    cases he
    exact fin
  have L6 : ∀ (n6 : Nat) (v3 : Int32) (v4 : Int32) (m_p1 : Nat → Int64), f_J7_fill_d0a16_6 p2 n6 v3 v4 m_p1 = some res → ∀ (H : Heap) (locs : List Loc) (ls : Array Slot), va_P E.1 vwCl (wd_J7_fill_d0a16 E a_p1 m_p1) H → va_D A (wd_J7_fill_d0a16 E a_p1 m_p1) → va_S A s.heap H locs → lv_has ls 5 [(0, .ref a_p1), (1, .long p2), (3, .int v3), (4, .int v4)] → W p l e (rmm 0 0) s m ([.ref a_p1, .long p2] : List Value).toArray below meth c H locs 0 0 Q (F0 m 6 ls []) := by
    intro n6
    induction n6 with
    | zero => intro v3 v4 m_p1 hf; rw [f_J7_fill_d0a16_6] at hf; cases hf
    | succ n6 ih6 =>
      intro v3 v4 m_p1 hf H locs ls hP hD hS hl
      rw [f_J7_fill_d0a16_6] at hf
      refine lv_iload_n hx hb dJ7_fill_d0a16_6 rfl (lv_at hl 2 rfl) ?_
      refine lv_iload hx hb dJ7_fill_d0a16_7 (lv_at hl 3 rfl) ?_
      refine lv_icmp_ge (tgt := 22) hx hb dJ7_fill_d0a16_9 (by decide) (fun c_9 => ?_) (fun c_9 => ?_)
      · have hf := if_t c_9 hf
        exact fin' _ hf 22 ls H locs dJ7_fill_d0a16_22 hP hD hS
      · have hf := if_f c_9 hf
        refine lv_aload_n hx hb dJ7_fill_d0a16_12 rfl (lv_at hl 0 rfl) ?_
        refine lv_iload_n hx hb dJ7_fill_d0a16_13 rfl (lv_at hl 2 rfl) ?_
        refine lv_lload_n hx hb dJ7_fill_d0a16_14 rfl (lv_at hl 1 rfl) ?_
        obtain ⟨hi15, hf⟩ := ck_some hf
        refine r_last X hP hD hS 0 rfl hi15 (ws' := (wd_J7_fill_d0a16 E a_p1 (vp_updL m_p1 (ix v3) p2))) rfl dJ7_fill_d0a16_15 (fun H locs hP hD hS => ?_)
        refine lv_iinc (v := (v3 + (1 : Int32))) (lv' := [(3, .int (v3 + (1 : Int32))), (0, .ref a_p1), (1, .long p2), (4, .int v4)]) hx hb dJ7_fill_d0a16_16 hl (k := 2) rfl rfl (by decide) rfl (fun ls hl => ?_)
        refine lv_goto (tgt := 6) hx hb dJ7_fill_d0a16_19 (by decide) ?_
        exact ih6 (v3 + (1 : Int32)) v4 (vp_updL m_p1 (ix v3) p2) hf H locs ls hP hD hS (lv_sub hl [1, 2, 0, 3] rfl)
  have hS : va_S A s.heap s.heap [] := va_S.rf
  obtain ⟨H, hH9⟩ : ∃ z, z = s.heap := ⟨_, rfl⟩
  obtain ⟨locs, hL9⟩ : ∃ z : List Loc, z = [] := ⟨_, rfl⟩
  rw [← hL9]
  rw [← hL9] at hS
  have hP : va_P E.1 vwCl (wd_J7_fill_d0a16 E a_p1 x_p1) H := by rw [hH9]; exact hP
  have hS : va_S A s.heap H locs := by rw [hH9]; exact hS
  suffices hgoal : W p l e (rmm 0 0) s m ([.ref a_p1, .long p2] : List Value).toArray below meth c H locs 0 0 Q (F0 m 0 ls []) by rw [hH9] at hgoal; exact hgoal
  rw [f_J7_fill_d0a16] at hf
  refine lv_iconst (v := (0 : Int32)) hx hb dJ7_fill_d0a16_0 (by decide) ?_
  refine lv_istore_n (lv' := [(3, .int (0 : Int32)), (0, .ref a_p1), (1, .long p2)]) hx hb dJ7_fill_d0a16_1 rfl hl (by decide) rfl (fun ls hl => ?_)
  refine lv_aload_n hx hb dJ7_fill_d0a16_2 rfl (lv_at hl 1 rfl) ?_
  refine va_alen (v := (1024 : Int32)) hx hb X.2.2.2.2.2.1 hP 0 2 rfl rfl rfl dJ7_fill_d0a16_3 ?_
  refine lv_istore (lv' := [(4, .int (1024 : Int32)), (3, .int (0 : Int32)), (0, .ref a_p1), (1, .long p2)]) hx hb dJ7_fill_d0a16_4 hl (by decide) rfl (fun ls hl => ?_)
  exact L6 FU (0 : Int32) (1024 : Int32) x_p1 hf H locs ls hP hD hS (lv_sub hl [2, 3, 1, 0] rfl)
abbrev wd_J6_bitCount_0f7a4 (E : EN)   : va_W := []
def f_J6_bitCount_0f7a4_48  (v0 : Int32) : Option (Int32) :=
  some (v0 &&& (63 : Int32))
def f_J6_bitCount_0f7a4_41  (v0 : Int32) : Option (Int32) :=
  f_J6_bitCount_0f7a4_48 (v0 + (jiushr v0 (16 : Int32)))
def f_J6_bitCount_0f7a4_34  (v0 : Int32) : Option (Int32) :=
  f_J6_bitCount_0f7a4_41 (v0 + (jiushr v0 (8 : Int32)))
def f_J6_bitCount_0f7a4_24  (v0 : Int32) : Option (Int32) :=
  f_J6_bitCount_0f7a4_34 ((v0 + (jiushr v0 (4 : Int32))) &&& (252645135 : Int32))
def f_J6_bitCount_0f7a4_10  (v0 : Int32) : Option (Int32) :=
  f_J6_bitCount_0f7a4_24 ((v0 &&& (858993459 : Int32)) + ((jiushr v0 (2 : Int32)) &&& (858993459 : Int32)))
def f_J6_bitCount_0f7a4 (p1 : Int32) : Option (Int32) :=
  f_J6_bitCount_0f7a4_10 (p1 - ((jiushr p1 (1 : Int32)) &&& (1431655765 : Int32)))
set_option maxHeartbeats 4000000 in
set_option maxRecDepth 100000 in
theorem c_J6_bitCount_0f7a4 (l : Launch) (E : EN)  (p1 : Int32) (res : Int32) (hf : f_J6_bitCount_0f7a4 p1 = some res) : CtI l yJ6_bitCount_0f7a4 cJ6_bitCount_0f7a4 1 .int 0 0 E [.int p1] (wd_J6_bitCount_0f7a4 E) (wd_J6_bitCount_0f7a4 E) res := by
  refine CtI.of RJ6 (by decide) rfl (Nat.le_of_ble_eq_true rfl) ?_
  intro p e s m below meth c A Q ls X hA hP hD hl fin
  have hx := X.1
  have hb := X.2.1
  have hl : lv_has ls 1 [(0, .int p1)] := hl
  have fin' : ∀ (fr0 : Int32), some fr0 = some res → ∀ (pc : Nat) (ls : Array Slot) (H : Heap) (locs : List Loc), decode cJ6_bitCount_0f7a4 pc = .ok (.ireturn, 1) → narrow .int (.int fr0) = .int fr0 → va_P E.1 vwCl (wd_J6_bitCount_0f7a4 E) H → va_D A (wd_J6_bitCount_0f7a4 E) → va_S A s.heap H locs → W p l e (rmm 0 0) s m ([.int p1] : List Value).toArray below meth c H locs 0 0 Q (F0 m pc ls [.int fr0]) := by
    intro fr0 he
    cases he
    exact fin
  have L48 : ∀ (v0 : Int32), f_J6_bitCount_0f7a4_48 v0 = some res → ∀ (H : Heap) (locs : List Loc) (ls : Array Slot), va_P E.1 vwCl (wd_J6_bitCount_0f7a4 E) H → va_D A (wd_J6_bitCount_0f7a4 E) → va_S A s.heap H locs → lv_has ls 1 [(0, .int v0)] → W p l e (rmm 0 0) s m ([.int p1] : List Value).toArray below meth c H locs 0 0 Q (F0 m 48 ls []) := by
    intro v0 hf H locs ls hP hD hS hl
    rw [f_J6_bitCount_0f7a4_48] at hf
    refine lv_iload_n hx hb dJ6_bitCount_0f7a4_48 rfl (lv_at hl 0 rfl) ?_
    refine lv_bipush (v := (63 : Int32)) hx hb dJ6_bitCount_0f7a4_49 (by decide) ?_
    refine lv_iand hx hb dJ6_bitCount_0f7a4_51 ?_
    exact fin' _ hf 52 ls H locs dJ6_bitCount_0f7a4_52 rfl hP hD hS
  have L41 : ∀ (v0 : Int32), f_J6_bitCount_0f7a4_41 v0 = some res → ∀ (H : Heap) (locs : List Loc) (ls : Array Slot), va_P E.1 vwCl (wd_J6_bitCount_0f7a4 E) H → va_D A (wd_J6_bitCount_0f7a4 E) → va_S A s.heap H locs → lv_has ls 1 [(0, .int v0)] → W p l e (rmm 0 0) s m ([.int p1] : List Value).toArray below meth c H locs 0 0 Q (F0 m 41 ls []) := by
    intro v0 hf H locs ls hP hD hS hl
    rw [f_J6_bitCount_0f7a4_41] at hf
    refine lv_iload_n hx hb dJ6_bitCount_0f7a4_41 rfl (lv_at hl 0 rfl) ?_
    refine lv_iload_n hx hb dJ6_bitCount_0f7a4_42 rfl (lv_at hl 0 rfl) ?_
    refine lv_bipush (v := (16 : Int32)) hx hb dJ6_bitCount_0f7a4_43 (by decide) ?_
    refine lv_iushr (v := (jiushr v0 (16 : Int32))) hx hb dJ6_bitCount_0f7a4_45 rfl ?_
    refine lv_iadd hx hb dJ6_bitCount_0f7a4_46 ?_
    refine lv_istore_n (lv' := [(0, .int (v0 + (jiushr v0 (16 : Int32))))]) hx hb dJ6_bitCount_0f7a4_47 rfl hl (by decide) rfl (fun ls hl => ?_)
    exact L48 (v0 + (jiushr v0 (16 : Int32))) hf H locs ls hP hD hS (lv_sub hl [0] rfl)
  have L34 : ∀ (v0 : Int32), f_J6_bitCount_0f7a4_34 v0 = some res → ∀ (H : Heap) (locs : List Loc) (ls : Array Slot), va_P E.1 vwCl (wd_J6_bitCount_0f7a4 E) H → va_D A (wd_J6_bitCount_0f7a4 E) → va_S A s.heap H locs → lv_has ls 1 [(0, .int v0)] → W p l e (rmm 0 0) s m ([.int p1] : List Value).toArray below meth c H locs 0 0 Q (F0 m 34 ls []) := by
    intro v0 hf H locs ls hP hD hS hl
    rw [f_J6_bitCount_0f7a4_34] at hf
    refine lv_iload_n hx hb dJ6_bitCount_0f7a4_34 rfl (lv_at hl 0 rfl) ?_
    refine lv_iload_n hx hb dJ6_bitCount_0f7a4_35 rfl (lv_at hl 0 rfl) ?_
    refine lv_bipush (v := (8 : Int32)) hx hb dJ6_bitCount_0f7a4_36 (by decide) ?_
    refine lv_iushr (v := (jiushr v0 (8 : Int32))) hx hb dJ6_bitCount_0f7a4_38 rfl ?_
    refine lv_iadd hx hb dJ6_bitCount_0f7a4_39 ?_
    refine lv_istore_n (lv' := [(0, .int (v0 + (jiushr v0 (8 : Int32))))]) hx hb dJ6_bitCount_0f7a4_40 rfl hl (by decide) rfl (fun ls hl => ?_)
    exact L41 (v0 + (jiushr v0 (8 : Int32))) hf H locs ls hP hD hS (lv_sub hl [0] rfl)
  have L24 : ∀ (v0 : Int32), f_J6_bitCount_0f7a4_24 v0 = some res → ∀ (H : Heap) (locs : List Loc) (ls : Array Slot), va_P E.1 vwCl (wd_J6_bitCount_0f7a4 E) H → va_D A (wd_J6_bitCount_0f7a4 E) → va_S A s.heap H locs → lv_has ls 1 [(0, .int v0)] → W p l e (rmm 0 0) s m ([.int p1] : List Value).toArray below meth c H locs 0 0 Q (F0 m 24 ls []) := by
    intro v0 hf H locs ls hP hD hS hl
    rw [f_J6_bitCount_0f7a4_24] at hf
    refine lv_iload_n hx hb dJ6_bitCount_0f7a4_24 rfl (lv_at hl 0 rfl) ?_
    refine lv_iload_n hx hb dJ6_bitCount_0f7a4_25 rfl (lv_at hl 0 rfl) ?_
    refine lv_iconst (v := (4 : Int32)) hx hb dJ6_bitCount_0f7a4_26 (by decide) ?_
    refine lv_iushr (v := (jiushr v0 (4 : Int32))) hx hb dJ6_bitCount_0f7a4_27 rfl ?_
    refine lv_iadd hx hb dJ6_bitCount_0f7a4_28 ?_
    refine lv_ldcw (v := (252645135 : Int32)) hx hb X.2.2.2.1 (X.2.2.2.2.1 _ k_525) dJ6_bitCount_0f7a4_29 ?_
    refine lv_iand hx hb dJ6_bitCount_0f7a4_32 ?_
    refine lv_istore_n (lv' := [(0, .int ((v0 + (jiushr v0 (4 : Int32))) &&& (252645135 : Int32)))]) hx hb dJ6_bitCount_0f7a4_33 rfl hl (by decide) rfl (fun ls hl => ?_)
    exact L34 ((v0 + (jiushr v0 (4 : Int32))) &&& (252645135 : Int32)) hf H locs ls hP hD hS (lv_sub hl [0] rfl)
  have L10 : ∀ (v0 : Int32), f_J6_bitCount_0f7a4_10 v0 = some res → ∀ (H : Heap) (locs : List Loc) (ls : Array Slot), va_P E.1 vwCl (wd_J6_bitCount_0f7a4 E) H → va_D A (wd_J6_bitCount_0f7a4 E) → va_S A s.heap H locs → lv_has ls 1 [(0, .int v0)] → W p l e (rmm 0 0) s m ([.int p1] : List Value).toArray below meth c H locs 0 0 Q (F0 m 10 ls []) := by
    intro v0 hf H locs ls hP hD hS hl
    rw [f_J6_bitCount_0f7a4_10] at hf
    refine lv_iload_n hx hb dJ6_bitCount_0f7a4_10 rfl (lv_at hl 0 rfl) ?_
    refine lv_ldcw (v := (858993459 : Int32)) hx hb X.2.2.2.1 (X.2.2.2.2.1 _ k_524) dJ6_bitCount_0f7a4_11 ?_
    refine lv_iand hx hb dJ6_bitCount_0f7a4_14 ?_
    refine lv_iload_n hx hb dJ6_bitCount_0f7a4_15 rfl (lv_at hl 0 rfl) ?_
    refine lv_iconst (v := (2 : Int32)) hx hb dJ6_bitCount_0f7a4_16 (by decide) ?_
    refine lv_iushr (v := (jiushr v0 (2 : Int32))) hx hb dJ6_bitCount_0f7a4_17 rfl ?_
    refine lv_ldcw (v := (858993459 : Int32)) hx hb X.2.2.2.1 (X.2.2.2.2.1 _ k_524) dJ6_bitCount_0f7a4_18 ?_
    refine lv_iand hx hb dJ6_bitCount_0f7a4_21 ?_
    refine lv_iadd hx hb dJ6_bitCount_0f7a4_22 ?_
    refine lv_istore_n (lv' := [(0, .int ((v0 &&& (858993459 : Int32)) + ((jiushr v0 (2 : Int32)) &&& (858993459 : Int32))))]) hx hb dJ6_bitCount_0f7a4_23 rfl hl (by decide) rfl (fun ls hl => ?_)
    exact L24 ((v0 &&& (858993459 : Int32)) + ((jiushr v0 (2 : Int32)) &&& (858993459 : Int32))) hf H locs ls hP hD hS (lv_sub hl [0] rfl)
  have hS : va_S A s.heap s.heap [] := va_S.rf
  obtain ⟨H, hH9⟩ : ∃ z, z = s.heap := ⟨_, rfl⟩
  obtain ⟨locs, hL9⟩ : ∃ z : List Loc, z = [] := ⟨_, rfl⟩
  rw [← hL9]
  rw [← hL9] at hS
  have hP : va_P E.1 vwCl (wd_J6_bitCount_0f7a4 E) H := by rw [hH9]; exact hP
  have hS : va_S A s.heap H locs := by rw [hH9]; exact hS
  suffices hgoal : W p l e (rmm 0 0) s m ([.int p1] : List Value).toArray below meth c H locs 0 0 Q (F0 m 0 ls []) by rw [hH9] at hgoal; exact hgoal
  rw [f_J6_bitCount_0f7a4] at hf
  refine lv_iload_n hx hb dJ6_bitCount_0f7a4_0 rfl (lv_at hl 0 rfl) ?_
  refine lv_iload_n hx hb dJ6_bitCount_0f7a4_1 rfl (lv_at hl 0 rfl) ?_
  refine lv_iconst (v := (1 : Int32)) hx hb dJ6_bitCount_0f7a4_2 (by decide) ?_
  refine lv_iushr (v := (jiushr p1 (1 : Int32))) hx hb dJ6_bitCount_0f7a4_3 rfl ?_
  refine lv_ldcw (v := (1431655765 : Int32)) hx hb X.2.2.2.1 (X.2.2.2.2.1 _ k_523) dJ6_bitCount_0f7a4_4 ?_
  refine lv_iand hx hb dJ6_bitCount_0f7a4_7 ?_
  refine lv_isub hx hb dJ6_bitCount_0f7a4_8 ?_
  refine lv_istore_n (lv' := [(0, .int (p1 - ((jiushr p1 (1 : Int32)) &&& (1431655765 : Int32))))]) hx hb dJ6_bitCount_0f7a4_9 rfl hl (by decide) rfl (fun ls hl => ?_)
  exact L10 (p1 - ((jiushr p1 (1 : Int32)) &&& (1431655765 : Int32))) hf H locs ls hP hD hS (lv_sub hl [0] rfl)
