abbrev wd_X5_countOf (E : EN)   : va_W := []
def f_X5_countOf_17 (p1 : Int32) (p2 : Int32)   : Option (Int32) :=
  if p1 = (65 : Int32) then
    some (1 : Int32)
  else
    if p1 = (84 : Int32) then
      some (10 : Int32)
    else
      if p1 = (74 : Int32) then
        some p2
      else
        if p1 = (81 : Int32) then
          some p2
        else
          if p1 = (75 : Int32) then
            some p2
          else
            some (0 : Int32)
def f_X5_countOf (p1 : Int32) (p2 : Int32) : Option (Int32) :=
  if p1 < (49 : Int32) then
    f_X5_countOf_17 p1 p2 
  else
    if (57 : Int32) < p1 then
      f_X5_countOf_17 p1 p2 
    else
      some (p1 - (48 : Int32))
set_option maxHeartbeats 4000000 in
set_option maxRecDepth 100000 in
theorem c_X5_countOf (l : Launch) (E : EN)  (p1 : Int32) (p2 : Int32) (res : Int32) (hf : f_X5_countOf p1 p2 = some res) : CtI l yX5_countOf cX5_countOf 2 .int 0 0 E [.int p1, .int p2] (wd_X5_countOf E) (wd_X5_countOf E) res := by
  refine CtI.of RX5 (by decide) rfl (Nat.le_of_ble_eq_true rfl) ?_
  intro p e s m below meth c A Q ls X hA hP hD hl fin
  have hx := X.1
  have hb := X.2.1
  have hl : lv_has ls 2 [(0, .int p1), (1, .int p2)] := hl
  have fin' : ∀ (fr0 : Int32), some fr0 = some res → ∀ (pc : Nat) (ls : Array Slot) (H : Heap) (locs : List Loc), decode cX5_countOf pc = .ok (.ireturn, 1) → narrow .int (.int fr0) = .int fr0 → va_P E.1 vwCl (wd_X5_countOf E) H → va_D A (wd_X5_countOf E) → va_S A s.heap H locs → W p l e (rmm 0 0) s m ([.int p1, .int p2] : List Value).toArray below meth c H locs 0 0 Q (F0 m pc ls [.int fr0]) := by
    intro fr0 he
    cases he
    exact fin
  have L17 : f_X5_countOf_17 p1 p2  = some res → ∀ (H : Heap) (locs : List Loc) (ls : Array Slot), va_P E.1 vwCl (wd_X5_countOf E) H → va_D A (wd_X5_countOf E) → va_S A s.heap H locs → lv_has ls 2 [(0, .int p1), (1, .int p2)] → W p l e (rmm 0 0) s m ([.int p1, .int p2] : List Value).toArray below meth c H locs 0 0 Q (F0 m 17 ls []) := by
    intro  hf H locs ls hP hD hS hl
    rw [f_X5_countOf_17] at hf
    refine lv_iload_n hx hb dX5_countOf_17 rfl (lv_at hl 0 rfl) ?_
    refine lv_bipush (v := (65 : Int32)) hx hb dX5_countOf_18 (by decide) ?_
    refine lv_icmp_ne (tgt := 25) hx hb dX5_countOf_20 (by decide) (fun c_20 => ?_) (fun c_20 => ?_)
    · have hf := if_f c_20 hf
      refine lv_iload_n hx hb dX5_countOf_25 rfl (lv_at hl 0 rfl) ?_
      refine lv_bipush (v := (84 : Int32)) hx hb dX5_countOf_26 (by decide) ?_
      refine lv_icmp_ne (tgt := 34) hx hb dX5_countOf_28 (by decide) (fun c_28 => ?_) (fun c_28 => ?_)
      · have hf := if_f c_28 hf
        refine lv_iload_n hx hb dX5_countOf_34 rfl (lv_at hl 0 rfl) ?_
        refine lv_bipush (v := (74 : Int32)) hx hb dX5_countOf_35 (by decide) ?_
        refine lv_icmp_eq (tgt := 52) hx hb dX5_countOf_37 (by decide) (fun c_37 => ?_) (fun c_37 => ?_)
        · have hf := if_t c_37 hf
          refine lv_iload_n hx hb dX5_countOf_52 rfl (lv_at hl 1 rfl) ?_
          refine lv_goto (tgt := 57) hx hb dX5_countOf_53 (by decide) ?_
          exact fin' _ hf 57 ls H locs dX5_countOf_57 rfl hP hD hS
        · have hf := if_f c_37 hf
          refine lv_iload_n hx hb dX5_countOf_40 rfl (lv_at hl 0 rfl) ?_
          refine lv_bipush (v := (81 : Int32)) hx hb dX5_countOf_41 (by decide) ?_
          refine lv_icmp_eq (tgt := 52) hx hb dX5_countOf_43 (by decide) (fun c_43 => ?_) (fun c_43 => ?_)
          · have hf := if_t c_43 hf
            refine lv_iload_n hx hb dX5_countOf_52 rfl (lv_at hl 1 rfl) ?_
            refine lv_goto (tgt := 57) hx hb dX5_countOf_53 (by decide) ?_
            exact fin' _ hf 57 ls H locs dX5_countOf_57 rfl hP hD hS
          · have hf := if_f c_43 hf
            refine lv_iload_n hx hb dX5_countOf_46 rfl (lv_at hl 0 rfl) ?_
            refine lv_bipush (v := (75 : Int32)) hx hb dX5_countOf_47 (by decide) ?_
            refine lv_icmp_ne (tgt := 56) hx hb dX5_countOf_49 (by decide) (fun c_49 => ?_) (fun c_49 => ?_)
            · have hf := if_f c_49 hf
              refine lv_iconst (v := (0 : Int32)) hx hb dX5_countOf_56 (by decide) ?_
              exact fin' _ hf 57 ls H locs dX5_countOf_57 rfl hP hD hS
            · have hf := if_t c_49 hf
              refine lv_iload_n hx hb dX5_countOf_52 rfl (lv_at hl 1 rfl) ?_
              refine lv_goto (tgt := 57) hx hb dX5_countOf_53 (by decide) ?_
              exact fin' _ hf 57 ls H locs dX5_countOf_57 rfl hP hD hS
      · have hf := if_t c_28 hf
        refine lv_bipush (v := (10 : Int32)) hx hb dX5_countOf_31 (by decide) ?_
        exact fin' _ hf 33 ls H locs dX5_countOf_33 rfl hP hD hS
    · have hf := if_t c_20 hf
      refine lv_iconst (v := (1 : Int32)) hx hb dX5_countOf_23 (by decide) ?_
      exact fin' _ hf 24 ls H locs dX5_countOf_24 rfl hP hD hS
  have hS : va_S A s.heap s.heap [] := va_S.rf
  obtain ⟨H, hH9⟩ : ∃ z, z = s.heap := ⟨_, rfl⟩
  obtain ⟨locs, hL9⟩ : ∃ z : List Loc, z = [] := ⟨_, rfl⟩
  rw [← hL9]
  rw [← hL9] at hS
  have hP : va_P E.1 vwCl (wd_X5_countOf E) H := by rw [hH9]; exact hP
  have hS : va_S A s.heap H locs := by rw [hH9]; exact hS
  suffices hgoal : W p l e (rmm 0 0) s m ([.int p1, .int p2] : List Value).toArray below meth c H locs 0 0 Q (F0 m 0 ls []) by rw [hH9] at hgoal; exact hgoal
  rw [f_X5_countOf] at hf
  refine lv_iload_n hx hb dX5_countOf_0 rfl (lv_at hl 0 rfl) ?_
  refine lv_bipush (v := (49 : Int32)) hx hb dX5_countOf_1 (by decide) ?_
  refine lv_icmp_lt (tgt := 17) hx hb dX5_countOf_3 (by decide) (fun c_3 => ?_) (fun c_3 => ?_)
  · have hf := if_t c_3 hf
    exact L17  hf H locs ls hP hD hS (lv_sub hl [0, 1] rfl)
  · have hf := if_f c_3 hf
    refine lv_iload_n hx hb dX5_countOf_6 rfl (lv_at hl 0 rfl) ?_
    refine lv_bipush (v := (57 : Int32)) hx hb dX5_countOf_7 (by decide) ?_
    refine lv_icmp_gt (tgt := 17) hx hb dX5_countOf_9 (by decide) (fun c_9 => ?_) (fun c_9 => ?_)
    · have hf := if_t c_9 hf
      exact L17  hf H locs ls hP hD hS (lv_sub hl [0, 1] rfl)
    · have hf := if_f c_9 hf
      refine lv_iload_n hx hb dX5_countOf_12 rfl (lv_at hl 0 rfl) ?_
      refine lv_bipush (v := (48 : Int32)) hx hb dX5_countOf_13 (by decide) ?_
      refine lv_isub hx hb dX5_countOf_15 ?_
      exact fin' _ hf 16 ls H locs dX5_countOf_16 rfl hP hD hS
abbrev wd_X5_isCount (E : EN)   : va_W := []
def f_X5_isCount (p1 : Int32) : Option (Int32) :=
  if p1 < (1 : Int32) then
    some (0 : Int32)
  else
    if (10 : Int32) < p1 then
      some (0 : Int32)
    else
      some (1 : Int32)
set_option maxHeartbeats 4000000 in
set_option maxRecDepth 100000 in
theorem c_X5_isCount (l : Launch) (E : EN)  (p1 : Int32) (res : Int32) (hf : f_X5_isCount p1 = some res) : CtI l yX5_isCount cX5_isCount 1 .boolean 0 0 E [.int p1] (wd_X5_isCount E) (wd_X5_isCount E) res := by
  refine CtI.of RX5 (by decide) rfl (Nat.le_of_ble_eq_true rfl) ?_
  intro p e s m below meth c A Q ls X hA hP hD hl fin
  have hx := X.1
  have hb := X.2.1
  have hl : lv_has ls 1 [(0, .int p1)] := hl
  have fin' : ∀ (fr0 : Int32), some fr0 = some res → ∀ (pc : Nat) (ls : Array Slot) (H : Heap) (locs : List Loc), decode cX5_isCount pc = .ok (.ireturn, 1) → narrow .boolean (.int fr0) = .int fr0 → va_P E.1 vwCl (wd_X5_isCount E) H → va_D A (wd_X5_isCount E) → va_S A s.heap H locs → W p l e (rmm 0 0) s m ([.int p1] : List Value).toArray below meth c H locs 0 0 Q (F0 m pc ls [.int fr0]) := by
    intro fr0 he
    cases he
    exact fin
  have hS : va_S A s.heap s.heap [] := va_S.rf
  obtain ⟨H, hH9⟩ : ∃ z, z = s.heap := ⟨_, rfl⟩
  obtain ⟨locs, hL9⟩ : ∃ z : List Loc, z = [] := ⟨_, rfl⟩
  rw [← hL9]
  rw [← hL9] at hS
  have hP : va_P E.1 vwCl (wd_X5_isCount E) H := by rw [hH9]; exact hP
  have hS : va_S A s.heap H locs := by rw [hH9]; exact hS
  suffices hgoal : W p l e (rmm 0 0) s m ([.int p1] : List Value).toArray below meth c H locs 0 0 Q (F0 m 0 ls []) by rw [hH9] at hgoal; exact hgoal
  rw [f_X5_isCount] at hf
  refine lv_iload_n hx hb dX5_isCount_0 rfl (lv_at hl 0 rfl) ?_
  refine lv_iconst (v := (1 : Int32)) hx hb dX5_isCount_1 (by decide) ?_
  refine lv_icmp_lt (tgt := 15) hx hb dX5_isCount_2 (by decide) (fun c_2 => ?_) (fun c_2 => ?_)
  · have hf := if_t c_2 hf
    refine lv_iconst (v := (0 : Int32)) hx hb dX5_isCount_15 (by decide) ?_
    exact fin' _ hf 16 ls H locs dX5_isCount_16 rfl hP hD hS
  · have hf := if_f c_2 hf
    refine lv_iload_n hx hb dX5_isCount_5 rfl (lv_at hl 0 rfl) ?_
    refine lv_bipush (v := (10 : Int32)) hx hb dX5_isCount_6 (by decide) ?_
    refine lv_icmp_gt (tgt := 15) hx hb dX5_isCount_8 (by decide) (fun c_8 => ?_) (fun c_8 => ?_)
    · have hf := if_t c_8 hf
      refine lv_iconst (v := (0 : Int32)) hx hb dX5_isCount_15 (by decide) ?_
      exact fin' _ hf 16 ls H locs dX5_isCount_16 rfl hP hD hS
    · have hf := if_f c_8 hf
      refine lv_iconst (v := (1 : Int32)) hx hb dX5_isCount_11 (by decide) ?_
      refine lv_goto (tgt := 16) hx hb dX5_isCount_12 (by decide) ?_
      exact fin' _ hf 16 ls H locs dX5_isCount_16 rfl hP hD hS
abbrev wd_X5_leastBit (E : EN)   : va_W := []
def f_X5_leastBit (p1 : Int64) : Option (Int32) :=
  Option.bind (f_J13_bitCount_95d88 ((p1 &&& (-p1)) - (1 : Int64))) (fun r6 =>
  some r6)
set_option maxHeartbeats 4000000 in
set_option maxRecDepth 100000 in
theorem c_X5_leastBit (l : Launch) (E : EN)  (p1 : Int64) (res : Int32) (hf : f_X5_leastBit p1 = some res) : CtI l yX5_leastBit cX5_leastBit 2 .int 1 21 E [.long p1] (wd_X5_leastBit E) (wd_X5_leastBit E) res := by
  refine CtI.of RX5 (by decide) rfl (Nat.le_of_ble_eq_true rfl) ?_
  intro p e s m below meth c A Q ls X hA hP hD hl fin
  have hx := X.1
  have hb := X.2.1
  have hl : lv_has ls 2 [(0, .long p1)] := hl
  have fin' : ∀ (fr0 : Int32), some fr0 = some res → ∀ (pc : Nat) (ls : Array Slot) (H : Heap) (locs : List Loc), decode cX5_leastBit pc = .ok (.ireturn, 1) → narrow .int (.int fr0) = .int fr0 → va_P E.1 vwCl (wd_X5_leastBit E) H → va_D A (wd_X5_leastBit E) → va_S A s.heap H locs → W p l e (rmm 1 21) s m ([.long p1] : List Value).toArray below meth c H locs 0 0 Q (F0 m pc ls [.int fr0]) := by
    intro fr0 he
    cases he
    exact fin
  have hS : va_S A s.heap s.heap [] := va_S.rf
  obtain ⟨H, hH9⟩ : ∃ z, z = s.heap := ⟨_, rfl⟩
  obtain ⟨locs, hL9⟩ : ∃ z : List Loc, z = [] := ⟨_, rfl⟩
  rw [← hL9]
  rw [← hL9] at hS
  have hP : va_P E.1 vwCl (wd_X5_leastBit E) H := by rw [hH9]; exact hP
  have hS : va_S A s.heap H locs := by rw [hH9]; exact hS
  suffices hgoal : W p l e (rmm 1 21) s m ([.long p1] : List Value).toArray below meth c H locs 0 0 Q (F0 m 0 ls []) by rw [hH9] at hgoal; exact hgoal
  rw [f_X5_leastBit] at hf
  refine lv_lload_n hx hb dX5_leastBit_0 rfl (lv_at hl 0 rfl) ?_
  refine lv_lload_n hx hb dX5_leastBit_1 rfl (lv_at hl 0 rfl) ?_
  refine lv_lneg hx hb dX5_leastBit_2 ?_
  refine lv_land hx hb dX5_leastBit_3 ?_
  refine lv_lconst (v := (1 : Int64)) hx hb dX5_leastBit_4 (by decide) ?_
  refine lv_lsub hx hb dX5_leastBit_5 ?_
  obtain ⟨r6, hc6, hf⟩ := bd_some hf
  refine cS_I X hA hP hD hS hl.1 (c_J13_bitCount_95d88 l E ((p1 &&& (-p1)) - (1 : Int64)) r6 hc6) 1 k_426 mw_J13_bitCount_95d88 hd_J13_bitCount_95d88 ⟨Nat.le_of_ble_eq_true rfl, Nat.le_of_ble_eq_true rfl⟩ [] [] [] rfl rfl (wr := []) rfl rfl rfl rfl rfl (Nat.le_of_ble_eq_true rfl) rfl (ws' := (wd_X5_leastBit E)) rfl ⟨Nat.le_of_ble_eq_true rfl, Nat.le_of_ble_eq_true rfl⟩ dX5_leastBit_6 (fun H locs hP hD hS => ?_)
  exact fin' _ hf 9 ls H locs dX5_leastBit_9 rfl hP hD hS
abbrev wd_X5_bitAt (E : EN)   : va_W := []
def f_X5_bitAt_5 (p1 : Int64) (p2 : Int32)  : Nat → Int32 → Int32 → Option (Int32)
  | 0, _, _ => none
  | n_ + 1, v3, v4 =>
    if (40 : Int32) ≤ v4 then
      some (-6 : Int32)
    else
      if (lg_cmp ((jlushr p1 v4) &&& (1 : Int64)) (0 : Int64)) = 0 then
        f_X5_bitAt_5 p1 p2 n_ v3 (v4 + (1 : Int32))
      else
        if v3 = p2 then
          some v4
        else
          f_X5_bitAt_5 p1 p2 n_ (v3 + (1 : Int32)) (v4 + (1 : Int32))
def f_X5_bitAt (p1 : Int64) (p2 : Int32) : Option (Int32) :=
  f_X5_bitAt_5 p1 p2 FU (0 : Int32) (0 : Int32)
set_option maxHeartbeats 4000000 in
set_option maxRecDepth 100000 in
theorem c_X5_bitAt (l : Launch) (E : EN)  (p1 : Int64) (p2 : Int32) (res : Int32) (hf : f_X5_bitAt p1 p2 = some res) : CtI l yX5_bitAt cX5_bitAt 5 .int 0 0 E [.long p1, .int p2] (wd_X5_bitAt E) (wd_X5_bitAt E) res := by
  refine CtI.of RX5 (by decide) rfl (Nat.le_of_ble_eq_true rfl) ?_
  intro p e s m below meth c A Q ls X hA hP hD hl fin
  have hx := X.1
  have hb := X.2.1
  have hl : lv_has ls 5 [(0, .long p1), (2, .int p2)] := hl
  have fin' : ∀ (fr0 : Int32), some fr0 = some res → ∀ (pc : Nat) (ls : Array Slot) (H : Heap) (locs : List Loc), decode cX5_bitAt pc = .ok (.ireturn, 1) → narrow .int (.int fr0) = .int fr0 → va_P E.1 vwCl (wd_X5_bitAt E) H → va_D A (wd_X5_bitAt E) → va_S A s.heap H locs → W p l e (rmm 0 0) s m ([.long p1, .int p2] : List Value).toArray below meth c H locs 0 0 Q (F0 m pc ls [.int fr0]) := by
    intro fr0 he
    cases he
    exact fin
  have L5 : ∀ (n5 : Nat) (v3 : Int32) (v4 : Int32), f_X5_bitAt_5 p1 p2 n5 v3 v4 = some res → ∀ (H : Heap) (locs : List Loc) (ls : Array Slot), va_P E.1 vwCl (wd_X5_bitAt E) H → va_D A (wd_X5_bitAt E) → va_S A s.heap H locs → lv_has ls 5 [(0, .long p1), (2, .int p2), (3, .int v3), (4, .int v4)] → W p l e (rmm 0 0) s m ([.long p1, .int p2] : List Value).toArray below meth c H locs 0 0 Q (F0 m 5 ls []) := by
    intro n5
    induction n5 with
    | zero => intro v3 v4 hf; rw [f_X5_bitAt_5] at hf; cases hf
    | succ n5 ih5 =>
      intro v3 v4 hf H locs ls hP hD hS hl
      rw [f_X5_bitAt_5] at hf
      refine lv_iload hx hb dX5_bitAt_5 (lv_at hl 3 rfl) ?_
      refine lv_bipush (v := (40 : Int32)) hx hb dX5_bitAt_7 (by decide) ?_
      refine lv_icmp_ge (tgt := 43) hx hb dX5_bitAt_9 (by decide) (fun c_9 => ?_) (fun c_9 => ?_)
      · have hf := if_t c_9 hf
        refine lv_bipush (v := (-6 : Int32)) hx hb dX5_bitAt_43 (by decide) ?_
        exact fin' _ hf 45 ls H locs dX5_bitAt_45 rfl hP hD hS
      · have hf := if_f c_9 hf
        refine lv_lload_n hx hb dX5_bitAt_12 rfl (lv_at hl 0 rfl) ?_
        refine lv_iload hx hb dX5_bitAt_13 (lv_at hl 3 rfl) ?_
        refine lv_lushr (v := (jlushr p1 v4)) hx hb dX5_bitAt_15 rfl ?_
        refine lv_lconst (v := (1 : Int64)) hx hb dX5_bitAt_16 (by decide) ?_
        refine lv_land hx hb dX5_bitAt_17 ?_
        refine lv_lconst (v := (0 : Int64)) hx hb dX5_bitAt_18 (by decide) ?_
        refine W.lcmp hx hb dX5_bitAt_19 ?_
        refine lv_if_ne (tgt := 26) hx hb dX5_bitAt_20 (by decide) (fun c_20 => ?_) (fun c_20 => ?_)
        · have hf := if_f c_20 hf
          refine lv_iload_n hx hb dX5_bitAt_26 rfl (lv_at hl 2 rfl) ?_
          refine lv_iload_n hx hb dX5_bitAt_27 rfl (lv_at hl 1 rfl) ?_
          refine lv_icmp_ne (tgt := 34) hx hb dX5_bitAt_28 (by decide) (fun c_28 => ?_) (fun c_28 => ?_)
          · have hf := if_f c_28 hf
            refine lv_iinc (v := (v3 + (1 : Int32))) (lv' := [(3, .int (v3 + (1 : Int32))), (0, .long p1), (2, .int p2), (4, .int v4)]) hx hb dX5_bitAt_34 hl (k := 2) rfl rfl (by decide) rfl (fun ls hl => ?_)
            refine lv_iinc (v := (v4 + (1 : Int32))) (lv' := [(4, .int (v4 + (1 : Int32))), (3, .int (v3 + (1 : Int32))), (0, .long p1), (2, .int p2)]) hx hb dX5_bitAt_37 hl (k := 3) rfl rfl (by decide) rfl (fun ls hl => ?_)
            refine lv_goto (tgt := 5) hx hb dX5_bitAt_40 (by decide) ?_
            exact ih5 (v3 + (1 : Int32)) (v4 + (1 : Int32)) hf H locs ls hP hD hS (lv_sub hl [2, 3, 1, 0] rfl)
          · have hf := if_t c_28 hf
            refine lv_iload hx hb dX5_bitAt_31 (lv_at hl 3 rfl) ?_
            exact fin' _ hf 33 ls H locs dX5_bitAt_33 rfl hP hD hS
        · have hf := if_t c_20 hf
          refine lv_goto (tgt := 37) hx hb dX5_bitAt_23 (by decide) ?_
          refine lv_iinc (v := (v4 + (1 : Int32))) (lv' := [(4, .int (v4 + (1 : Int32))), (0, .long p1), (2, .int p2), (3, .int v3)]) hx hb dX5_bitAt_37 hl (k := 3) rfl rfl (by decide) rfl (fun ls hl => ?_)
          refine lv_goto (tgt := 5) hx hb dX5_bitAt_40 (by decide) ?_
          exact ih5 v3 (v4 + (1 : Int32)) hf H locs ls hP hD hS (lv_sub hl [1, 2, 3, 0] rfl)
  have hS : va_S A s.heap s.heap [] := va_S.rf
  obtain ⟨H, hH9⟩ : ∃ z, z = s.heap := ⟨_, rfl⟩
  obtain ⟨locs, hL9⟩ : ∃ z : List Loc, z = [] := ⟨_, rfl⟩
  rw [← hL9]
  rw [← hL9] at hS
  have hP : va_P E.1 vwCl (wd_X5_bitAt E) H := by rw [hH9]; exact hP
  have hS : va_S A s.heap H locs := by rw [hH9]; exact hS
  suffices hgoal : W p l e (rmm 0 0) s m ([.long p1, .int p2] : List Value).toArray below meth c H locs 0 0 Q (F0 m 0 ls []) by rw [hH9] at hgoal; exact hgoal
  rw [f_X5_bitAt] at hf
  refine lv_iconst (v := (0 : Int32)) hx hb dX5_bitAt_0 (by decide) ?_
  refine lv_istore_n (lv' := [(3, .int (0 : Int32)), (0, .long p1), (2, .int p2)]) hx hb dX5_bitAt_1 rfl hl (by decide) rfl (fun ls hl => ?_)
  refine lv_iconst (v := (0 : Int32)) hx hb dX5_bitAt_2 (by decide) ?_
  refine lv_istore (lv' := [(4, .int (0 : Int32)), (3, .int (0 : Int32)), (0, .long p1), (2, .int p2)]) hx hb dX5_bitAt_3 hl (by decide) rfl (fun ls hl => ?_)
  exact L5 FU (0 : Int32) (0 : Int32) hf H locs ls hP hD hS (lv_sub hl [2, 3, 1, 0] rfl)
abbrev wd_X5_isPart (E : EN)   : va_W := []
def f_X5_isPart (p1 : Int32) : Option (Int32) :=
  if p1 = 0 then
    some (1 : Int32)
  else
    if p1 = (1 : Int32) then
      some (1 : Int32)
    else
      some (0 : Int32)
set_option maxHeartbeats 4000000 in
set_option maxRecDepth 100000 in
theorem c_X5_isPart (l : Launch) (E : EN)  (p1 : Int32) (res : Int32) (hf : f_X5_isPart p1 = some res) : CtI l yX5_isPart cX5_isPart 1 .boolean 0 0 E [.int p1] (wd_X5_isPart E) (wd_X5_isPart E) res := by
  refine CtI.of RX5 (by decide) rfl (Nat.le_of_ble_eq_true rfl) ?_
  intro p e s m below meth c A Q ls X hA hP hD hl fin
  have hx := X.1
  have hb := X.2.1
  have hl : lv_has ls 1 [(0, .int p1)] := hl
  have fin' : ∀ (fr0 : Int32), some fr0 = some res → ∀ (pc : Nat) (ls : Array Slot) (H : Heap) (locs : List Loc), decode cX5_isPart pc = .ok (.ireturn, 1) → narrow .boolean (.int fr0) = .int fr0 → va_P E.1 vwCl (wd_X5_isPart E) H → va_D A (wd_X5_isPart E) → va_S A s.heap H locs → W p l e (rmm 0 0) s m ([.int p1] : List Value).toArray below meth c H locs 0 0 Q (F0 m pc ls [.int fr0]) := by
    intro fr0 he
    cases he
    exact fin
  have hS : va_S A s.heap s.heap [] := va_S.rf
  obtain ⟨H, hH9⟩ : ∃ z, z = s.heap := ⟨_, rfl⟩
  obtain ⟨locs, hL9⟩ : ∃ z : List Loc, z = [] := ⟨_, rfl⟩
  rw [← hL9]
  rw [← hL9] at hS
  have hP : va_P E.1 vwCl (wd_X5_isPart E) H := by rw [hH9]; exact hP
  have hS : va_S A s.heap H locs := by rw [hH9]; exact hS
  suffices hgoal : W p l e (rmm 0 0) s m ([.int p1] : List Value).toArray below meth c H locs 0 0 Q (F0 m 0 ls []) by rw [hH9] at hgoal; exact hgoal
  rw [f_X5_isPart] at hf
  refine lv_iload_n hx hb dX5_isPart_0 rfl (lv_at hl 0 rfl) ?_
  refine lv_if_eq (tgt := 9) hx hb dX5_isPart_1 (by decide) (fun c_1 => ?_) (fun c_1 => ?_)
  · have hf := if_t c_1 hf
    refine lv_iconst (v := (1 : Int32)) hx hb dX5_isPart_9 (by decide) ?_
    refine lv_goto (tgt := 14) hx hb dX5_isPart_10 (by decide) ?_
    exact fin' _ hf 14 ls H locs dX5_isPart_14 rfl hP hD hS
  · have hf := if_f c_1 hf
    refine lv_iload_n hx hb dX5_isPart_4 rfl (lv_at hl 0 rfl) ?_
    refine lv_iconst (v := (1 : Int32)) hx hb dX5_isPart_5 (by decide) ?_
    refine lv_icmp_ne (tgt := 13) hx hb dX5_isPart_6 (by decide) (fun c_6 => ?_) (fun c_6 => ?_)
    · have hf := if_f c_6 hf
      refine lv_iconst (v := (0 : Int32)) hx hb dX5_isPart_13 (by decide) ?_
      exact fin' _ hf 14 ls H locs dX5_isPart_14 rfl hP hD hS
    · have hf := if_t c_6 hf
      refine lv_iconst (v := (1 : Int32)) hx hb dX5_isPart_9 (by decide) ?_
      refine lv_goto (tgt := 14) hx hb dX5_isPart_10 (by decide) ?_
      exact fin' _ hf 14 ls H locs dX5_isPart_14 rfl hP hD hS
abbrev wd_X5_lowestTerms (E : EN)   : va_W := []
def f_X5_lowestTerms_44 (p1 : Int64) (p2 : Int64) (p3 : Int32)  (v5 : Int64) : Option (Int64) :=
  if p3 = 0 then
    if (lg_cmp v5 (0 : Int64)) = 0 then
      some p1
    else
      ck (decide (¬ v5 = 0)) (
      some (p1 / v5))
  else
    if (lg_cmp v5 (0 : Int64)) = 0 then
      some p2
    else
      ck (decide (¬ v5 = 0)) (
      some (p2 / v5))
def f_X5_lowestTerms_9 (p1 : Int64) (p2 : Int64) (p3 : Int32)  : Nat → Int64 → Int64 → Int32 → Option (Int64)
  | 0, _, _, _ => none
  | n_ + 1, v5, v7, v9 =>
    if (100 : Int32) ≤ v9 then
      f_X5_lowestTerms_44 p1 p2 p3 v5
    else
      if (lg_cmp v7 (0 : Int64)) = 0 then
        f_X5_lowestTerms_44 p1 p2 p3 v5
      else
        ck (decide (¬ v7 = 0)) (
        f_X5_lowestTerms_9 p1 p2 p3 n_ v7 (v5 - v5 / v7 * v7) (v9 + (1 : Int32)))
def f_X5_lowestTerms (p1 : Int64) (p2 : Int64) (p3 : Int32) : Option (Int64) :=
  f_X5_lowestTerms_9 p1 p2 p3 FU p2 p1 (0 : Int32)
set_option maxHeartbeats 4000000 in
set_option maxRecDepth 100000 in
theorem c_X5_lowestTerms (l : Launch) (E : EN)  (p1 : Int64) (p2 : Int64) (p3 : Int32) (res : Int64) (hf : f_X5_lowestTerms p1 p2 p3 = some res) : CtL l yX5_lowestTerms cX5_lowestTerms 12 0 0 E [.long p1, .long p2, .int p3] (wd_X5_lowestTerms E) (wd_X5_lowestTerms E) res := by
  refine CtL.of RX5 (by decide) rfl (Nat.le_of_ble_eq_true rfl) ?_
  intro p e s m below meth c A Q ls X hA hP hD hl fin
  have hx := X.1
  have hb := X.2.1
  have hl : lv_has ls 12 [(0, .long p1), (2, .long p2), (4, .int p3)] := hl
  have fin' : ∀ (fr0 : Int64), some fr0 = some res → ∀ (pc : Nat) (ls : Array Slot) (H : Heap) (locs : List Loc), decode cX5_lowestTerms pc = .ok (.lreturn, 1) → va_P E.1 vwCl (wd_X5_lowestTerms E) H → va_D A (wd_X5_lowestTerms E) → va_S A s.heap H locs → W p l e (rmm 0 0) s m ([.long p1, .long p2, .int p3] : List Value).toArray below meth c H locs 0 0 Q (F0 m pc ls [.long fr0]) := by
    intro fr0 he
    cases he
    exact fin
  have L44 : ∀ (v5 : Int64), f_X5_lowestTerms_44 p1 p2 p3 v5 = some res → ∀ (H : Heap) (locs : List Loc) (ls : Array Slot), va_P E.1 vwCl (wd_X5_lowestTerms E) H → va_D A (wd_X5_lowestTerms E) → va_S A s.heap H locs → lv_has ls 12 [(0, .long p1), (2, .long p2), (4, .int p3), (5, .long v5)] → W p l e (rmm 0 0) s m ([.long p1, .long p2, .int p3] : List Value).toArray below meth c H locs 0 0 Q (F0 m 44 ls []) := by
    intro v5 hf H locs ls hP hD hS hl
    rw [f_X5_lowestTerms_44] at hf
    refine lv_iload hx hb dX5_lowestTerms_44 (lv_at hl 2 rfl) ?_
    refine lv_if_ne (tgt := 53) hx hb dX5_lowestTerms_46 (by decide) (fun c_46 => ?_) (fun c_46 => ?_)
    · have hf := if_f c_46 hf
      refine lv_lload_n hx hb dX5_lowestTerms_53 rfl (lv_at hl 1 rfl) ?_
      refine lv_lstore (lv' := [(9, .long p2), (0, .long p1), (2, .long p2), (4, .int p3), (5, .long v5)]) hx hb dX5_lowestTerms_54 hl (by decide) rfl (fun ls hl => ?_)
      refine lv_lload hx hb dX5_lowestTerms_56 (lv_at hl 4 rfl) ?_
      refine lv_lconst (v := (0 : Int64)) hx hb dX5_lowestTerms_58 (by decide) ?_
      refine W.lcmp hx hb dX5_lowestTerms_59 ?_
      refine lv_if_ne (tgt := 68) hx hb dX5_lowestTerms_60 (by decide) (fun c_60 => ?_) (fun c_60 => ?_)
      · have hf := if_f c_60 hf
        refine lv_lload hx hb dX5_lowestTerms_68 (lv_at hl 0 rfl) ?_
        refine lv_lload hx hb dX5_lowestTerms_70 (lv_at hl 4 rfl) ?_
        obtain ⟨hz72, hf⟩ := ck_some hf
        refine lv_ldiv hx hb dX5_lowestTerms_72 (of_decide_eq_true hz72) ?_
        exact fin' _ hf 73 ls H locs dX5_lowestTerms_73 hP hD hS
      · have hf := if_t c_60 hf
        refine lv_lload hx hb dX5_lowestTerms_63 (lv_at hl 0 rfl) ?_
        refine lv_goto (tgt := 73) hx hb dX5_lowestTerms_65 (by decide) ?_
        exact fin' _ hf 73 ls H locs dX5_lowestTerms_73 hP hD hS
    · have hf := if_t c_46 hf
      refine lv_lload_n hx hb dX5_lowestTerms_49 rfl (lv_at hl 0 rfl) ?_
      refine lv_goto (tgt := 54) hx hb dX5_lowestTerms_50 (by decide) ?_
      refine lv_lstore (lv' := [(9, .long p1), (0, .long p1), (2, .long p2), (4, .int p3), (5, .long v5)]) hx hb dX5_lowestTerms_54 hl (by decide) rfl (fun ls hl => ?_)
      refine lv_lload hx hb dX5_lowestTerms_56 (lv_at hl 4 rfl) ?_
      refine lv_lconst (v := (0 : Int64)) hx hb dX5_lowestTerms_58 (by decide) ?_
      refine W.lcmp hx hb dX5_lowestTerms_59 ?_
      refine lv_if_ne (tgt := 68) hx hb dX5_lowestTerms_60 (by decide) (fun c_60 => ?_) (fun c_60 => ?_)
      · have hf := if_f c_60 hf
        refine lv_lload hx hb dX5_lowestTerms_68 (lv_at hl 0 rfl) ?_
        refine lv_lload hx hb dX5_lowestTerms_70 (lv_at hl 4 rfl) ?_
        obtain ⟨hz72, hf⟩ := ck_some hf
        refine lv_ldiv hx hb dX5_lowestTerms_72 (of_decide_eq_true hz72) ?_
        exact fin' _ hf 73 ls H locs dX5_lowestTerms_73 hP hD hS
      · have hf := if_t c_60 hf
        refine lv_lload hx hb dX5_lowestTerms_63 (lv_at hl 0 rfl) ?_
        refine lv_goto (tgt := 73) hx hb dX5_lowestTerms_65 (by decide) ?_
        exact fin' _ hf 73 ls H locs dX5_lowestTerms_73 hP hD hS
  have L9 : ∀ (n9 : Nat) (v5 : Int64) (v7 : Int64) (v9 : Int32), f_X5_lowestTerms_9 p1 p2 p3 n9 v5 v7 v9 = some res → ∀ (H : Heap) (locs : List Loc) (ls : Array Slot), va_P E.1 vwCl (wd_X5_lowestTerms E) H → va_D A (wd_X5_lowestTerms E) → va_S A s.heap H locs → lv_has ls 12 [(0, .long p1), (2, .long p2), (4, .int p3), (5, .long v5), (7, .long v7), (9, .int v9)] → W p l e (rmm 0 0) s m ([.long p1, .long p2, .int p3] : List Value).toArray below meth c H locs 0 0 Q (F0 m 9 ls []) := by
    intro n9
    induction n9 with
    | zero => intro v5 v7 v9 hf; rw [f_X5_lowestTerms_9] at hf; cases hf
    | succ n9 ih9 =>
      intro v5 v7 v9 hf H locs ls hP hD hS hl
      rw [f_X5_lowestTerms_9] at hf
      refine lv_iload hx hb dX5_lowestTerms_9 (lv_at hl 5 rfl) ?_
      refine lv_bipush (v := (100 : Int32)) hx hb dX5_lowestTerms_11 (by decide) ?_
      refine lv_icmp_ge (tgt := 44) hx hb dX5_lowestTerms_13 (by decide) (fun c_13 => ?_) (fun c_13 => ?_)
      · have hf := if_t c_13 hf
        exact L44 v5 hf H locs ls hP hD hS (lv_sub hl [0, 1, 2, 3] rfl)
      · have hf := if_f c_13 hf
        refine lv_lload hx hb dX5_lowestTerms_16 (lv_at hl 4 rfl) ?_
        refine lv_lconst (v := (0 : Int64)) hx hb dX5_lowestTerms_18 (by decide) ?_
        refine W.lcmp hx hb dX5_lowestTerms_19 ?_
        refine lv_if_eq (tgt := 44) hx hb dX5_lowestTerms_20 (by decide) (fun c_20 => ?_) (fun c_20 => ?_)
        · have hf := if_t c_20 hf
          exact L44 v5 hf H locs ls hP hD hS (lv_sub hl [0, 1, 2, 3] rfl)
        · have hf := if_f c_20 hf
          refine lv_lload hx hb dX5_lowestTerms_23 (lv_at hl 3 rfl) ?_
          refine lv_lload hx hb dX5_lowestTerms_25 (lv_at hl 4 rfl) ?_
          obtain ⟨hz27, hf⟩ := ck_some hf
          refine lv_lrem hx hb dX5_lowestTerms_27 (of_decide_eq_true hz27) ?_
          refine lv_lstore (lv' := [(10, .long (v5 - v5 / v7 * v7)), (0, .long p1), (2, .long p2), (4, .int p3), (5, .long v5), (7, .long v7), (9, .int v9)]) hx hb dX5_lowestTerms_28 hl (by decide) rfl (fun ls hl => ?_)
          refine lv_lload hx hb dX5_lowestTerms_30 (lv_at hl 5 rfl) ?_
          refine lv_lstore (lv' := [(5, .long v7), (10, .long (v5 - v5 / v7 * v7)), (0, .long p1), (2, .long p2), (4, .int p3), (7, .long v7), (9, .int v9)]) hx hb dX5_lowestTerms_32 hl (by decide) rfl (fun ls hl => ?_)
          refine lv_lload hx hb dX5_lowestTerms_34 (lv_at hl 1 rfl) ?_
          refine lv_lstore (lv' := [(7, .long (v5 - v5 / v7 * v7)), (5, .long v7), (10, .long (v5 - v5 / v7 * v7)), (0, .long p1), (2, .long p2), (4, .int p3), (9, .int v9)]) hx hb dX5_lowestTerms_36 hl (by decide) rfl (fun ls hl => ?_)
          refine lv_iinc (v := (v9 + (1 : Int32))) (lv' := [(9, .int (v9 + (1 : Int32))), (7, .long (v5 - v5 / v7 * v7)), (5, .long v7), (10, .long (v5 - v5 / v7 * v7)), (0, .long p1), (2, .long p2), (4, .int p3)]) hx hb dX5_lowestTerms_38 hl (k := 6) rfl rfl (by decide) rfl (fun ls hl => ?_)
          refine lv_goto (tgt := 9) hx hb dX5_lowestTerms_41 (by decide) ?_
          exact ih9 v7 (v5 - v5 / v7 * v7) (v9 + (1 : Int32)) hf H locs ls hP hD hS (lv_sub hl [4, 5, 6, 2, 1, 0] rfl)
  have hS : va_S A s.heap s.heap [] := va_S.rf
  obtain ⟨H, hH9⟩ : ∃ z, z = s.heap := ⟨_, rfl⟩
  obtain ⟨locs, hL9⟩ : ∃ z : List Loc, z = [] := ⟨_, rfl⟩
  rw [← hL9]
  rw [← hL9] at hS
  have hP : va_P E.1 vwCl (wd_X5_lowestTerms E) H := by rw [hH9]; exact hP
  have hS : va_S A s.heap H locs := by rw [hH9]; exact hS
  suffices hgoal : W p l e (rmm 0 0) s m ([.long p1, .long p2, .int p3] : List Value).toArray below meth c H locs 0 0 Q (F0 m 0 ls []) by rw [hH9] at hgoal; exact hgoal
  rw [f_X5_lowestTerms] at hf
  refine lv_lload_n hx hb dX5_lowestTerms_0 rfl (lv_at hl 1 rfl) ?_
  refine lv_lstore (lv' := [(5, .long p2), (0, .long p1), (2, .long p2), (4, .int p3)]) hx hb dX5_lowestTerms_1 hl (by decide) rfl (fun ls hl => ?_)
  refine lv_lload_n hx hb dX5_lowestTerms_3 rfl (lv_at hl 1 rfl) ?_
  refine lv_lstore (lv' := [(7, .long p1), (5, .long p2), (0, .long p1), (2, .long p2), (4, .int p3)]) hx hb dX5_lowestTerms_4 hl (by decide) rfl (fun ls hl => ?_)
  refine lv_iconst (v := (0 : Int32)) hx hb dX5_lowestTerms_6 (by decide) ?_
  refine lv_istore (lv' := [(9, .int (0 : Int32)), (7, .long p1), (5, .long p2), (0, .long p1), (2, .long p2), (4, .int p3)]) hx hb dX5_lowestTerms_7 hl (by decide) rfl (fun ls hl => ?_)
  exact L9 FU p2 p1 (0 : Int32) hf H locs ls hP hD hS (lv_sub hl [3, 4, 5, 2, 1, 0] rfl)
abbrev wd_X5_mix (E : EN) (a_p1 : Nat) (x_p1 : Nat → Int32) : va_W := [(a_p1, e_C E 40 x_p1)]
def f_X5_mix_7  : Nat → Int32 → Int32 → (Nat → Int32) → Option ((Nat → Int32))
  | 0, _, _, _ => none
  | n_ + 1, v3, v4, m_p1 =>
    if v4 < (1 : Int32) then
      some m_p1
    else
      ck (decide (¬ (v4 + (1 : Int32)) = 0)) (
      ck (inB v4 40) (
      ck (inB ((((v3 * (75 : Int32)) + (74 : Int32)) - ((v3 * (75 : Int32)) + (74 : Int32)) / (65537 : Int32) * (65537 : Int32)) - (((v3 * (75 : Int32)) + (74 : Int32)) - ((v3 * (75 : Int32)) + (74 : Int32)) / (65537 : Int32) * (65537 : Int32)) / (v4 + (1 : Int32)) * (v4 + (1 : Int32))) 40) (
      f_X5_mix_7 n_ (((v3 * (75 : Int32)) + (74 : Int32)) - ((v3 * (75 : Int32)) + (74 : Int32)) / (65537 : Int32) * (65537 : Int32)) (v4 + (-1 : Int32)) (upd (upd m_p1 (ix v4) (vp_nar .char (m_p1 (ix ((((v3 * (75 : Int32)) + (74 : Int32)) - ((v3 * (75 : Int32)) + (74 : Int32)) / (65537 : Int32) * (65537 : Int32)) - (((v3 * (75 : Int32)) + (74 : Int32)) - ((v3 * (75 : Int32)) + (74 : Int32)) / (65537 : Int32) * (65537 : Int32)) / (v4 + (1 : Int32)) * (v4 + (1 : Int32))))))) (ix ((((v3 * (75 : Int32)) + (74 : Int32)) - ((v3 * (75 : Int32)) + (74 : Int32)) / (65537 : Int32) * (65537 : Int32)) - (((v3 * (75 : Int32)) + (74 : Int32)) - ((v3 * (75 : Int32)) + (74 : Int32)) / (65537 : Int32) * (65537 : Int32)) / (v4 + (1 : Int32)) * (v4 + (1 : Int32)))) (vp_nar .char (m_p1 (ix v4)))))))
def f_X5_mix (p2 : Int32) (p3 : Int32) (x_p1 : Nat → Int32) : Option ((Nat → Int32)) :=
  f_X5_mix_7 FU p3 (p2 - (1 : Int32)) x_p1
set_option maxHeartbeats 4000000 in
set_option maxRecDepth 100000 in
theorem c_X5_mix (l : Launch) (E : EN) (a_p1 : Nat) (x_p1 : Nat → Int32) (p2 : Int32) (p3 : Int32) (res : (Nat → Int32)) (hf : f_X5_mix p2 p3 x_p1 = some res) : CtV l yX5_mix cX5_mix 7 0 0 E [.ref a_p1, .int p2, .int p3] (wd_X5_mix E a_p1 x_p1) (wd_X5_mix E a_p1 res) := by
  refine CtV.of RX5 (by decide) rfl (Nat.le_of_ble_eq_true rfl) ?_
  intro p e s m below meth c A Q ls X hA hP hD hl fin
  have hx := X.1
  have hb := X.2.1
  have hl : lv_has ls 7 [(0, .ref a_p1), (1, .int p2), (2, .int p3)] := hl
  have fin' : ∀ (fr0 : (Nat → Int32)), some fr0 = some res → ∀ (pc : Nat) (ls : Array Slot) (H : Heap) (locs : List Loc), decode cX5_mix pc = .ok (.return_, 1) → va_P E.1 vwCl (wd_X5_mix E a_p1 fr0) H → va_D A (wd_X5_mix E a_p1 fr0) → va_S A s.heap H locs → W p l e (rmm 0 0) s m ([.ref a_p1, .int p2, .int p3] : List Value).toArray below meth c H locs 0 0 Q (F0 m pc ls []) := by
    intro fr0 he
    cases he
    exact fin
  have L7 : ∀ (n7 : Nat) (v3 : Int32) (v4 : Int32) (m_p1 : Nat → Int32), f_X5_mix_7 n7 v3 v4 m_p1 = some res → ∀ (H : Heap) (locs : List Loc) (ls : Array Slot), va_P E.1 vwCl (wd_X5_mix E a_p1 m_p1) H → va_D A (wd_X5_mix E a_p1 m_p1) → va_S A s.heap H locs → lv_has ls 7 [(0, .ref a_p1), (3, .int v3), (4, .int v4)] → W p l e (rmm 0 0) s m ([.ref a_p1, .int p2, .int p3] : List Value).toArray below meth c H locs 0 0 Q (F0 m 7 ls []) := by
    intro n7
    induction n7 with
    | zero => intro v3 v4 m_p1 hf; rw [f_X5_mix_7] at hf; cases hf
    | succ n7 ih7 =>
      intro v3 v4 m_p1 hf H locs ls hP hD hS hl
      rw [f_X5_mix_7] at hf
      refine lv_iload hx hb dX5_mix_7 (lv_at hl 2 rfl) ?_
      refine lv_iconst (v := (1 : Int32)) hx hb dX5_mix_9 (by decide) ?_
      refine lv_icmp_lt (tgt := 58) hx hb dX5_mix_10 (by decide) (fun c_10 => ?_) (fun c_10 => ?_)
      · have hf := if_t c_10 hf
        exact fin' _ hf 58 ls H locs dX5_mix_58 hP hD hS
      · have hf := if_f c_10 hf
        refine lv_iload_n hx hb dX5_mix_13 rfl (lv_at hl 1 rfl) ?_
        refine lv_bipush (v := (75 : Int32)) hx hb dX5_mix_14 (by decide) ?_
        refine lv_imul hx hb dX5_mix_16 ?_
        refine lv_bipush (v := (74 : Int32)) hx hb dX5_mix_17 (by decide) ?_
        refine lv_iadd hx hb dX5_mix_19 ?_
        refine lv_ldc (v := (65537 : Int32)) hx hb X.2.2.2.1 (X.2.2.2.2.1 _ k_604) dX5_mix_20 ?_
        refine lv_irem hx hb dX5_mix_22 (by decide) ?_
        refine lv_istore_n (lv' := [(3, .int (((v3 * (75 : Int32)) + (74 : Int32)) - ((v3 * (75 : Int32)) + (74 : Int32)) / (65537 : Int32) * (65537 : Int32))), (0, .ref a_p1), (4, .int v4)]) hx hb dX5_mix_23 rfl hl (by decide) rfl (fun ls hl => ?_)
        refine lv_iload_n hx hb dX5_mix_24 rfl (lv_at hl 0 rfl) ?_
        refine lv_iload hx hb dX5_mix_25 (lv_at hl 2 rfl) ?_
        refine lv_iconst (v := (1 : Int32)) hx hb dX5_mix_27 (by decide) ?_
        refine lv_iadd hx hb dX5_mix_28 ?_
        obtain ⟨hz29, hf⟩ := ck_some hf
        refine lv_irem hx hb dX5_mix_29 (of_decide_eq_true hz29) ?_
        refine lv_istore (lv' := [(5, .int ((((v3 * (75 : Int32)) + (74 : Int32)) - ((v3 * (75 : Int32)) + (74 : Int32)) / (65537 : Int32) * (65537 : Int32)) - (((v3 * (75 : Int32)) + (74 : Int32)) - ((v3 * (75 : Int32)) + (74 : Int32)) / (65537 : Int32) * (65537 : Int32)) / (v4 + (1 : Int32)) * (v4 + (1 : Int32)))), (3, .int (((v3 * (75 : Int32)) + (74 : Int32)) - ((v3 * (75 : Int32)) + (74 : Int32)) / (65537 : Int32) * (65537 : Int32))), (0, .ref a_p1), (4, .int v4)]) hx hb dX5_mix_30 hl (by decide) rfl (fun ls hl => ?_)
        refine lv_aload_n hx hb dX5_mix_32 rfl (lv_at hl 2 rfl) ?_
        refine lv_iload hx hb dX5_mix_33 (lv_at hl 3 rfl) ?_
        obtain ⟨hi35, hf⟩ := ck_some hf
        refine r_cald X hP 0 rfl hi35 dX5_mix_35 ?_
        refine lv_istore (lv' := [(6, .int (m_p1 (ix v4))), (5, .int ((((v3 * (75 : Int32)) + (74 : Int32)) - ((v3 * (75 : Int32)) + (74 : Int32)) / (65537 : Int32) * (65537 : Int32)) - (((v3 * (75 : Int32)) + (74 : Int32)) - ((v3 * (75 : Int32)) + (74 : Int32)) / (65537 : Int32) * (65537 : Int32)) / (v4 + (1 : Int32)) * (v4 + (1 : Int32)))), (3, .int (((v3 * (75 : Int32)) + (74 : Int32)) - ((v3 * (75 : Int32)) + (74 : Int32)) / (65537 : Int32) * (65537 : Int32))), (0, .ref a_p1), (4, .int v4)]) hx hb dX5_mix_36 hl (by decide) rfl (fun ls hl => ?_)
        refine lv_aload_n hx hb dX5_mix_38 rfl (lv_at hl 3 rfl) ?_
        refine lv_iload hx hb dX5_mix_39 (lv_at hl 4 rfl) ?_
        refine lv_aload_n hx hb dX5_mix_41 rfl (lv_at hl 3 rfl) ?_
        refine lv_iload hx hb dX5_mix_42 (lv_at hl 1 rfl) ?_
        obtain ⟨hi44, hf⟩ := ck_some hf
        refine r_cald X hP 0 rfl hi44 dX5_mix_44 ?_
        refine r_cast X hP hD hS 0 rfl hi35 (ws' := (wd_X5_mix E a_p1 (upd m_p1 (ix v4) (vp_nar .char (m_p1 (ix ((((v3 * (75 : Int32)) + (74 : Int32)) - ((v3 * (75 : Int32)) + (74 : Int32)) / (65537 : Int32) * (65537 : Int32)) - (((v3 * (75 : Int32)) + (74 : Int32)) - ((v3 * (75 : Int32)) + (74 : Int32)) / (65537 : Int32) * (65537 : Int32)) / (v4 + (1 : Int32)) * (v4 + (1 : Int32))))))))) rfl dX5_mix_45 (fun H locs hP hD hS => ?_)
        refine lv_aload_n hx hb dX5_mix_46 rfl (lv_at hl 3 rfl) ?_
        refine lv_iload hx hb dX5_mix_47 (lv_at hl 1 rfl) ?_
        refine lv_iload hx hb dX5_mix_49 (lv_at hl 0 rfl) ?_
        refine r_cast X hP hD hS 0 rfl hi44 (ws' := (wd_X5_mix E a_p1 (upd (upd m_p1 (ix v4) (vp_nar .char (m_p1 (ix ((((v3 * (75 : Int32)) + (74 : Int32)) - ((v3 * (75 : Int32)) + (74 : Int32)) / (65537 : Int32) * (65537 : Int32)) - (((v3 * (75 : Int32)) + (74 : Int32)) - ((v3 * (75 : Int32)) + (74 : Int32)) / (65537 : Int32) * (65537 : Int32)) / (v4 + (1 : Int32)) * (v4 + (1 : Int32))))))) (ix ((((v3 * (75 : Int32)) + (74 : Int32)) - ((v3 * (75 : Int32)) + (74 : Int32)) / (65537 : Int32) * (65537 : Int32)) - (((v3 * (75 : Int32)) + (74 : Int32)) - ((v3 * (75 : Int32)) + (74 : Int32)) / (65537 : Int32) * (65537 : Int32)) / (v4 + (1 : Int32)) * (v4 + (1 : Int32)))) (vp_nar .char (m_p1 (ix v4)))))) rfl dX5_mix_51 (fun H locs hP hD hS => ?_)
        refine lv_iinc (v := (v4 + (-1 : Int32))) (lv' := [(4, .int (v4 + (-1 : Int32))), (6, .int (m_p1 (ix v4))), (5, .int ((((v3 * (75 : Int32)) + (74 : Int32)) - ((v3 * (75 : Int32)) + (74 : Int32)) / (65537 : Int32) * (65537 : Int32)) - (((v3 * (75 : Int32)) + (74 : Int32)) - ((v3 * (75 : Int32)) + (74 : Int32)) / (65537 : Int32) * (65537 : Int32)) / (v4 + (1 : Int32)) * (v4 + (1 : Int32)))), (3, .int (((v3 * (75 : Int32)) + (74 : Int32)) - ((v3 * (75 : Int32)) + (74 : Int32)) / (65537 : Int32) * (65537 : Int32))), (0, .ref a_p1)]) hx hb dX5_mix_52 hl (k := 4) rfl rfl (by decide) rfl (fun ls hl => ?_)
        refine lv_goto (tgt := 7) hx hb dX5_mix_55 (by decide) ?_
        exact ih7 (((v3 * (75 : Int32)) + (74 : Int32)) - ((v3 * (75 : Int32)) + (74 : Int32)) / (65537 : Int32) * (65537 : Int32)) (v4 + (-1 : Int32)) (upd (upd m_p1 (ix v4) (vp_nar .char (m_p1 (ix ((((v3 * (75 : Int32)) + (74 : Int32)) - ((v3 * (75 : Int32)) + (74 : Int32)) / (65537 : Int32) * (65537 : Int32)) - (((v3 * (75 : Int32)) + (74 : Int32)) - ((v3 * (75 : Int32)) + (74 : Int32)) / (65537 : Int32) * (65537 : Int32)) / (v4 + (1 : Int32)) * (v4 + (1 : Int32))))))) (ix ((((v3 * (75 : Int32)) + (74 : Int32)) - ((v3 * (75 : Int32)) + (74 : Int32)) / (65537 : Int32) * (65537 : Int32)) - (((v3 * (75 : Int32)) + (74 : Int32)) - ((v3 * (75 : Int32)) + (74 : Int32)) / (65537 : Int32) * (65537 : Int32)) / (v4 + (1 : Int32)) * (v4 + (1 : Int32)))) (vp_nar .char (m_p1 (ix v4)))) hf H locs ls hP hD hS (lv_sub hl [4, 3, 0] rfl)
  have hS : va_S A s.heap s.heap [] := va_S.rf
  obtain ⟨H, hH9⟩ : ∃ z, z = s.heap := ⟨_, rfl⟩
  obtain ⟨locs, hL9⟩ : ∃ z : List Loc, z = [] := ⟨_, rfl⟩
  rw [← hL9]
  rw [← hL9] at hS
  have hP : va_P E.1 vwCl (wd_X5_mix E a_p1 x_p1) H := by rw [hH9]; exact hP
  have hS : va_S A s.heap H locs := by rw [hH9]; exact hS
  suffices hgoal : W p l e (rmm 0 0) s m ([.ref a_p1, .int p2, .int p3] : List Value).toArray below meth c H locs 0 0 Q (F0 m 0 ls []) by rw [hH9] at hgoal; exact hgoal
  rw [f_X5_mix] at hf
  refine lv_iload_n hx hb dX5_mix_0 rfl (lv_at hl 2 rfl) ?_
  refine lv_istore_n (lv' := [(3, .int p3), (0, .ref a_p1), (1, .int p2), (2, .int p3)]) hx hb dX5_mix_1 rfl hl (by decide) rfl (fun ls hl => ?_)
  refine lv_iload_n hx hb dX5_mix_2 rfl (lv_at hl 2 rfl) ?_
  refine lv_iconst (v := (1 : Int32)) hx hb dX5_mix_3 (by decide) ?_
  refine lv_isub hx hb dX5_mix_4 ?_
  refine lv_istore (lv' := [(4, .int (p2 - (1 : Int32))), (3, .int p3), (0, .ref a_p1), (1, .int p2), (2, .int p3)]) hx hb dX5_mix_5 hl (by decide) rfl (fun ls hl => ?_)
  exact L7 FU p3 (p2 - (1 : Int32)) x_p1 hf H locs ls hP hD hS (lv_sub hl [2, 1, 0] rfl)
