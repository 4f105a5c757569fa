abbrev wd_X5_say (E : EN) (a_t : Nat) (a_t_pad : Nat) (x_t_signs : Int32) (w_t_table : Value) (w_t_images : Value) (w_t_pack : Value) (w_t_row : Value) (w_t_chances : Value) (w_t_writing : Value) (w_t_guess : Value) (x_t_pad : Nat → Int32) : va_W := [(a_t, e_O 5 [.ref a_t_pad, .int x_t_signs, w_t_table, w_t_images, w_t_pack, w_t_row, w_t_chances, w_t_writing, w_t_guess]), (a_t_pad, e_C E 48 x_t_pad)]
def f_X5_say (p1 : Int32) (x_t_signs : Int32) (x_t_pad : Nat → Int32) : Option (Int32 × Int32 × (Nat → Int32)) :=
  if p1 < (33 : Int32) then
    some ((-2 : Int32), x_t_signs, x_t_pad)
  else
    if p1 ≤ (126 : Int32) then
      if x_t_signs < (48 : Int32) then
        ck (inB x_t_signs 48) (
        some ((x_t_signs + (1 : Int32)), (x_t_signs + (1 : Int32)), (upd x_t_pad (ix x_t_signs) (vp_nar .char (ji2c p1)))))
      else
        some ((-4 : Int32), x_t_signs, x_t_pad)
    else
      some ((-2 : Int32), x_t_signs, x_t_pad)
set_option maxHeartbeats 4000000 in
set_option maxRecDepth 100000 in
theorem c_X5_say (l : Launch) (E : EN) (a_t a_t_pad : Nat) (x_t_signs : Int32) (w_t_table : Value) (w_t_images : Value) (w_t_pack : Value) (w_t_row : Value) (w_t_chances : Value) (w_t_writing : Value) (w_t_guess : Value) (x_t_pad : Nat → Int32) (p1 : Int32) (res : Int32 × Int32 × (Nat → Int32)) (hf : f_X5_say p1 x_t_signs x_t_pad = some res) : CtI l yX5_say cX5_say 2 .int 0 0 E [.ref a_t, .int p1] (wd_X5_say E a_t a_t_pad x_t_signs w_t_table w_t_images w_t_pack w_t_row w_t_chances w_t_writing w_t_guess x_t_pad) (wd_X5_say E a_t a_t_pad res.2.1 w_t_table w_t_images w_t_pack w_t_row w_t_chances w_t_writing w_t_guess res.2.2) res.1 := by
  refine CtI.of RX5 (by decide) rfl (Nat.le_of_ble_eq_true rfl) ?_
  intro p e s m below meth c A Q ls X hA hP hD hl fin
  have hx := X.1
  have hb := X.2.1
  have hl : lv_has ls 2 [(0, .ref a_t), (1, .int p1)] := hl
  have fin' : ∀ (fr0 : Int32) (fr1 : Int32) (fr2 : (Nat → Int32)), some (fr0, fr1, fr2) = some res → ∀ (pc : Nat) (ls : Array Slot) (H : Heap) (locs : List Loc), decode cX5_say pc = .ok (.ireturn, 1) → narrow .int (.int fr0) = .int fr0 → va_P E.1 vwCl (wd_X5_say E a_t a_t_pad fr1 w_t_table w_t_images w_t_pack w_t_row w_t_chances w_t_writing w_t_guess fr2) H → va_D A (wd_X5_say E a_t a_t_pad fr1 w_t_table w_t_images w_t_pack w_t_row w_t_chances w_t_writing w_t_guess fr2) → va_S A s.heap H locs → W p l e (rmm 0 0) s m ([.ref a_t, .int p1] : List Value).toArray below meth c H locs 0 0 Q (F0 m pc ls [.int fr0]) := by
    intro fr0 fr1 fr2 he
    cases he
    exact fin
  have hS : va_S A s.heap s.heap [] := va_S.rf
  obtain ⟨H, hH9⟩ : ∃ z, z = s.heap := ⟨_, rfl⟩
  obtain ⟨locs, hL9⟩ : ∃ z : List Loc, z = [] := ⟨_, rfl⟩
  rw [← hL9]
  rw [← hL9] at hS
  have hP : va_P E.1 vwCl (wd_X5_say E a_t a_t_pad x_t_signs w_t_table w_t_images w_t_pack w_t_row w_t_chances w_t_writing w_t_guess x_t_pad) H := by rw [hH9]; exact hP
  have hS : va_S A s.heap H locs := by rw [hH9]; exact hS
  suffices hgoal : W p l e (rmm 0 0) s m ([.ref a_t, .int p1] : List Value).toArray below meth c H locs 0 0 Q (F0 m 0 ls []) by rw [hH9] at hgoal; exact hgoal
  rw [f_X5_say] at hf
  refine lv_iload_n hx hb dX5_say_0 rfl (lv_at hl 1 rfl) ?_
  refine lv_bipush (v := (33 : Int32)) hx hb dX5_say_1 (by decide) ?_
  refine lv_icmp_lt (tgt := 12) hx hb dX5_say_3 (by decide) (fun c_3 => ?_) (fun c_3 => ?_)
  · have hf := if_t c_3 hf
    refine lv_bipush (v := (-2 : Int32)) hx hb dX5_say_12 (by decide) ?_
    exact fin' _ _ _ hf 14 ls H locs dX5_say_14 rfl hP hD hS
  · have hf := if_f c_3 hf
    refine lv_iload_n hx hb dX5_say_6 rfl (lv_at hl 1 rfl) ?_
    refine lv_bipush (v := (126 : Int32)) hx hb dX5_say_7 (by decide) ?_
    refine lv_icmp_le (tgt := 15) hx hb dX5_say_9 (by decide) (fun c_9 => ?_) (fun c_9 => ?_)
    · have hf := if_t c_9 hf
      refine lv_aload_n hx hb dX5_say_15 rfl (lv_at hl 0 rfl) ?_
      refine gf_X5_13 X hP 0 rfl rfl dX5_say_16 ?_
      refine lv_bipush (v := (48 : Int32)) hx hb dX5_say_19 (by decide) ?_
      refine lv_icmp_lt (tgt := 27) hx hb dX5_say_21 (by decide) (fun c_21 => ?_) (fun c_21 => ?_)
      · have hf := if_t c_21 hf
        refine lv_aload_n hx hb dX5_say_27 rfl (lv_at hl 0 rfl) ?_
        refine gf_X5_9 X hP 0 rfl rfl dX5_say_28 ?_
        refine lv_aload_n hx hb dX5_say_31 rfl (lv_at hl 0 rfl) ?_
        refine gf_X5_13 X hP 0 rfl rfl dX5_say_32 ?_
        refine lv_iload_n hx hb dX5_say_35 rfl (lv_at hl 1 rfl) ?_
        refine lv_i2c (v := (ji2c p1)) hx hb dX5_say_36 rfl ?_
        obtain ⟨hi37, hf⟩ := ck_some hf
        refine r_cast X hP hD hS 1 rfl hi37 (ws' := (wd_X5_say E a_t a_t_pad x_t_signs w_t_table w_t_images w_t_pack w_t_row w_t_chances w_t_writing w_t_guess (upd x_t_pad (ix x_t_signs) (vp_nar .char (ji2c p1))))) rfl dX5_say_37 (fun H locs hP hD hS => ?_)
        refine lv_aload_n hx hb dX5_say_38 rfl (lv_at hl 0 rfl) ?_
        refine lv_dup hx hb dX5_say_39 rfl ?_
        refine gf_X5_13 X hP 0 rfl rfl dX5_say_40 ?_
        refine lv_iconst (v := (1 : Int32)) hx hb dX5_say_43 (by decide) ?_
        refine lv_iadd hx hb dX5_say_44 ?_
        refine pf_X5_13 X hP hD hS 0 rfl (Nat.le_of_ble_eq_true rfl) (ws' := (wd_X5_say E a_t a_t_pad (x_t_signs + (1 : Int32)) w_t_table w_t_images w_t_pack w_t_row w_t_chances w_t_writing w_t_guess (upd x_t_pad (ix x_t_signs) (vp_nar .char (ji2c p1))))) rfl dX5_say_45 (fun H locs hP hD hS => ?_)
        refine lv_aload_n hx hb dX5_say_48 rfl (lv_at hl 0 rfl) ?_
        refine gf_X5_13 X hP 0 rfl rfl dX5_say_49 ?_
        exact fin' _ _ _ hf 52 ls H locs dX5_say_52 rfl hP hD hS
      · have hf := if_f c_21 hf
        refine lv_bipush (v := (-4 : Int32)) hx hb dX5_say_24 (by decide) ?_
        exact fin' _ _ _ hf 26 ls H locs dX5_say_26 rfl hP hD hS
    · have hf := if_f c_9 hf
      refine lv_bipush (v := (-2 : Int32)) hx hb dX5_say_12 (by decide) ?_
      exact fin' _ _ _ hf 14 ls H locs dX5_say_14 rfl hP hD hS
abbrev wd_X5_wipe (E : EN) (a_t : Nat) (w_t_pad : Value) (x_t_signs : Int32) (w_t_table : Value) (w_t_images : Value) (w_t_pack : Value) (w_t_row : Value) (w_t_chances : Value) (w_t_writing : Value) (w_t_guess : Value) : va_W := [(a_t, e_O 5 [w_t_pad, .int x_t_signs, w_t_table, w_t_images, w_t_pack, w_t_row, w_t_chances, w_t_writing, w_t_guess])]
def f_X5_wipe (x_t_signs : Int32) : Option (Int32 × Int32) :=
  some (x_t_signs, (0 : Int32))
set_option maxHeartbeats 4000000 in
set_option maxRecDepth 100000 in
theorem c_X5_wipe (l : Launch) (E : EN) (a_t : Nat) (w_t_pad : Value) (x_t_signs : Int32) (w_t_table : Value) (w_t_images : Value) (w_t_pack : Value) (w_t_row : Value) (w_t_chances : Value) (w_t_writing : Value) (w_t_guess : Value)  (res : Int32 × Int32) (hf : f_X5_wipe x_t_signs = some res) : CtI l yX5_wipe cX5_wipe 2 .int 0 0 E [.ref a_t] (wd_X5_wipe E a_t w_t_pad x_t_signs w_t_table w_t_images w_t_pack w_t_row w_t_chances w_t_writing w_t_guess) (wd_X5_wipe E a_t w_t_pad res.2 w_t_table w_t_images w_t_pack w_t_row w_t_chances w_t_writing w_t_guess) res.1 := by
  refine CtI.of RX5 (by decide) rfl (Nat.le_of_ble_eq_true rfl) ?_
  intro p e s m below meth c A Q ls X hA hP hD hl fin
  have hx := X.1
  have hb := X.2.1
  have hl : lv_has ls 2 [(0, .ref a_t)] := hl
  have fin' : ∀ (fr0 : Int32) (fr1 : Int32), some (fr0, fr1) = some res → ∀ (pc : Nat) (ls : Array Slot) (H : Heap) (locs : List Loc), decode cX5_wipe pc = .ok (.ireturn, 1) → narrow .int (.int fr0) = .int fr0 → va_P E.1 vwCl (wd_X5_wipe E a_t w_t_pad fr1 w_t_table w_t_images w_t_pack w_t_row w_t_chances w_t_writing w_t_guess) H → va_D A (wd_X5_wipe E a_t w_t_pad fr1 w_t_table w_t_images w_t_pack w_t_row w_t_chances w_t_writing w_t_guess) → va_S A s.heap H locs → W p l e (rmm 0 0) s m ([.ref a_t] : List Value).toArray below meth c H locs 0 0 Q (F0 m pc ls [.int fr0]) := by
    intro fr0 fr1 he
    cases he
    exact fin
  have hS : va_S A s.heap s.heap [] := va_S.rf
  obtain ⟨H, hH9⟩ : ∃ z, z = s.heap := ⟨_, rfl⟩
  obtain ⟨locs, hL9⟩ : ∃ z : List Loc, z = [] := ⟨_, rfl⟩
  rw [← hL9]
  rw [← hL9] at hS
  have hP : va_P E.1 vwCl (wd_X5_wipe E a_t w_t_pad x_t_signs w_t_table w_t_images w_t_pack w_t_row w_t_chances w_t_writing w_t_guess) H := by rw [hH9]; exact hP
  have hS : va_S A s.heap H locs := by rw [hH9]; exact hS
  suffices hgoal : W p l e (rmm 0 0) s m ([.ref a_t] : List Value).toArray below meth c H locs 0 0 Q (F0 m 0 ls []) by rw [hH9] at hgoal; exact hgoal
  rw [f_X5_wipe] at hf
  refine lv_aload_n hx hb dX5_wipe_0 rfl (lv_at hl 0 rfl) ?_
  refine gf_X5_13 X hP 0 rfl rfl dX5_wipe_1 ?_
  refine lv_istore_n (lv' := [(1, .int x_t_signs), (0, .ref a_t)]) hx hb dX5_wipe_4 rfl hl (by decide) rfl (fun ls hl => ?_)
  refine lv_aload_n hx hb dX5_wipe_5 rfl (lv_at hl 1 rfl) ?_
  refine lv_iconst (v := (0 : Int32)) hx hb dX5_wipe_6 (by decide) ?_
  refine pf_X5_13 X hP hD hS 0 rfl (Nat.le_of_ble_eq_true rfl) (ws' := (wd_X5_wipe E a_t w_t_pad (0 : Int32) w_t_table w_t_images w_t_pack w_t_row w_t_chances w_t_writing w_t_guess)) rfl dX5_wipe_7 (fun H locs hP hD hS => ?_)
  refine lv_iload_n hx hb dX5_wipe_10 rfl (lv_at hl 0 rfl) ?_
  exact fin' _ _ hf 11 ls H locs dX5_wipe_11 rfl hP hD hS
abbrev wd_X5_firstFault (E : EN) (a_t : Nat) (a_t_pad : Nat) (x_t_signs : Int32) (w_t_table : Value) (w_t_images : Value) (w_t_pack : Value) (w_t_row : Value) (w_t_chances : Value) (w_t_writing : Value) (w_t_guess : Value) (x_t_pad : Nat → Int32) : va_W := [(a_t, e_O 5 [.ref a_t_pad, .int x_t_signs, w_t_table, w_t_images, w_t_pack, w_t_row, w_t_chances, w_t_writing, w_t_guess]), (a_t_pad, e_C E 48 x_t_pad)]
def f_X5_firstFault_59 (K_6 : Int32 → Int32 → Int32 → Option (Int32)) (v1 : Int32) (v2 : Int32) (v3 : Int32) : Option (Int32) :=
  if (40 : Int32) ≤ v3 then
    some v3
  else
    if (4 : Int32) < v1 then
      some v3
    else
      if v2 ≤ (5 : Int32) then
        K_6 v1 v2 (v3 + (1 : Int32))
      else
        some v3
def f_X5_firstFault_6 (x_t_signs : Int32) (x_t_pad : Nat → Int32)  : Nat → Int32 → Int32 → Int32 → Option (Int32)
  | 0, _, _, _ => none
  | n_ + 1, v1, v2, v3 =>
    if x_t_signs ≤ v3 then
      if x_t_signs = 0 then
        some (0 : Int32)
      else
        some (-6 : Int32)
    else
      ck (inB v3 48) (
      if (x_t_pad (ix v3)) = (42 : Int32) then
        f_X5_firstFault_59 (f_X5_firstFault_6 x_t_signs x_t_pad n_) (v1 + (1 : Int32)) v2 v3
      else
        if (x_t_pad (ix v3)) = (63 : Int32) then
          f_X5_firstFault_59 (f_X5_firstFault_6 x_t_signs x_t_pad n_) v1 (v2 + (1 : Int32)) v3
        else
          Option.bind (f_X5_countOf (x_t_pad (ix v3)) (1 : Int32)) (fun r51 =>
          if r51 = 0 then
            some v3
          else
            f_X5_firstFault_59 (f_X5_firstFault_6 x_t_signs x_t_pad n_) v1 v2 v3))
def f_X5_firstFault (x_t_signs : Int32) (x_t_pad : Nat → Int32) : Option (Int32) :=
  f_X5_firstFault_6 x_t_signs x_t_pad FU (0 : Int32) (0 : Int32) (0 : Int32)
set_option maxHeartbeats 4000000 in
set_option maxRecDepth 100000 in
theorem c_X5_firstFault (l : Launch) (E : EN) (a_t a_t_pad : Nat) (x_t_signs : Int32) (w_t_table : Value) (w_t_images : Value) (w_t_pack : Value) (w_t_row : Value) (w_t_chances : Value) (w_t_writing : Value) (w_t_guess : Value) (x_t_pad : Nat → Int32)  (res : Int32) (hf : f_X5_firstFault x_t_signs x_t_pad = some res) : CtI l yX5_firstFault cX5_firstFault 5 .int 1 21 E [.ref a_t] (wd_X5_firstFault E a_t a_t_pad x_t_signs w_t_table w_t_images w_t_pack w_t_row w_t_chances w_t_writing w_t_guess x_t_pad) (wd_X5_firstFault E a_t a_t_pad x_t_signs w_t_table w_t_images w_t_pack w_t_row w_t_chances w_t_writing w_t_guess x_t_pad) res := by
  refine CtI.of RX5 (by decide) rfl (Nat.le_of_ble_eq_true rfl) ?_
  intro p e s m below meth c A Q ls X hA hP hD hl fin
  have hx := X.1
  have hb := X.2.1
  have hl : lv_has ls 5 [(0, .ref a_t)] := hl
  have fin' : ∀ (fr0 : Int32), some fr0 = some res → ∀ (pc : Nat) (ls : Array Slot) (H : Heap) (locs : List Loc), decode cX5_firstFault pc = .ok (.ireturn, 1) → narrow .int (.int fr0) = .int fr0 → va_P E.1 vwCl (wd_X5_firstFault E a_t a_t_pad x_t_signs w_t_table w_t_images w_t_pack w_t_row w_t_chances w_t_writing w_t_guess x_t_pad) H → va_D A (wd_X5_firstFault E a_t a_t_pad x_t_signs w_t_table w_t_images w_t_pack w_t_row w_t_chances w_t_writing w_t_guess x_t_pad) → va_S A s.heap H locs → W p l e (rmm 1 21) s m ([.ref a_t] : List Value).toArray below meth c H locs 0 0 Q (F0 m pc ls [.int fr0]) := by
    intro fr0 he
    cases he
    exact fin
  have L6 : ∀ (n6 : Nat) (v1 : Int32) (v2 : Int32) (v3 : Int32), f_X5_firstFault_6 x_t_signs x_t_pad n6 v1 v2 v3 = some res → ∀ (H : Heap) (locs : List Loc) (ls : Array Slot), va_P E.1 vwCl (wd_X5_firstFault E a_t a_t_pad x_t_signs w_t_table w_t_images w_t_pack w_t_row w_t_chances w_t_writing w_t_guess x_t_pad) H → va_D A (wd_X5_firstFault E a_t a_t_pad x_t_signs w_t_table w_t_images w_t_pack w_t_row w_t_chances w_t_writing w_t_guess x_t_pad) → va_S A s.heap H locs → lv_has ls 5 [(0, .ref a_t), (1, .int v1), (2, .int v2), (3, .int v3)] → W p l e (rmm 1 21) s m ([.ref a_t] : List Value).toArray below meth c H locs 0 0 Q (F0 m 6 ls []) := by
    intro n6
    induction n6 with
    | zero => intro v1 v2 v3 hf; rw [f_X5_firstFault_6] at hf; cases hf
    | succ n6 ih6 =>
      have L59 : ∀ (v1 : Int32) (v2 : Int32) (v3 : Int32), f_X5_firstFault_59 (f_X5_firstFault_6 x_t_signs x_t_pad n6) v1 v2 v3 = some res → ∀ (H : Heap) (locs : List Loc) (ls : Array Slot), va_P E.1 vwCl (wd_X5_firstFault E a_t a_t_pad x_t_signs w_t_table w_t_images w_t_pack w_t_row w_t_chances w_t_writing w_t_guess x_t_pad) H → va_D A (wd_X5_firstFault E a_t a_t_pad x_t_signs w_t_table w_t_images w_t_pack w_t_row w_t_chances w_t_writing w_t_guess x_t_pad) → va_S A s.heap H locs → lv_has ls 5 [(0, .ref a_t), (1, .int v1), (2, .int v2), (3, .int v3)] → W p l e (rmm 1 21) s m ([.ref a_t] : List Value).toArray below meth c H locs 0 0 Q (F0 m 59 ls []) := by
        intro v1 v2 v3 hf H locs ls hP hD hS hl
        rw [f_X5_firstFault_59] at hf
        refine lv_iload_n hx hb dX5_firstFault_59 rfl (lv_at hl 3 rfl) ?_
        refine lv_bipush (v := (40 : Int32)) hx hb dX5_firstFault_60 (by decide) ?_
        refine lv_icmp_ge (tgt := 75) hx hb dX5_firstFault_62 (by decide) (fun c_62 => ?_) (fun c_62 => ?_)
        · have hf := if_t c_62 hf
          refine lv_iload_n hx hb dX5_firstFault_75 rfl (lv_at hl 3 rfl) ?_
          exact fin' _ hf 76 ls H locs dX5_firstFault_76 rfl hP hD hS
        · have hf := if_f c_62 hf
          refine lv_iload_n hx hb dX5_firstFault_65 rfl (lv_at hl 1 rfl) ?_
          refine lv_iconst (v := (4 : Int32)) hx hb dX5_firstFault_66 (by decide) ?_
          refine lv_icmp_gt (tgt := 75) hx hb dX5_firstFault_67 (by decide) (fun c_67 => ?_) (fun c_67 => ?_)
          · have hf := if_t c_67 hf
            refine lv_iload_n hx hb dX5_firstFault_75 rfl (lv_at hl 3 rfl) ?_
            exact fin' _ hf 76 ls H locs dX5_firstFault_76 rfl hP hD hS
          · have hf := if_f c_67 hf
            refine lv_iload_n hx hb dX5_firstFault_70 rfl (lv_at hl 2 rfl) ?_
            refine lv_iconst (v := (5 : Int32)) hx hb dX5_firstFault_71 (by decide) ?_
            refine lv_icmp_le (tgt := 77) hx hb dX5_firstFault_72 (by decide) (fun c_72 => ?_) (fun c_72 => ?_)
            · have hf := if_t c_72 hf
              refine lv_iinc (v := (v3 + (1 : Int32))) (lv' := [(3, .int (v3 + (1 : Int32))), (0, .ref a_t), (1, .int v1), (2, .int v2)]) hx hb dX5_firstFault_77 hl (k := 3) rfl rfl (by decide) rfl (fun ls hl => ?_)
              refine lv_goto (tgt := 6) hx hb dX5_firstFault_80 (by decide) ?_
              exact ih6 v1 v2 (v3 + (1 : Int32)) hf H locs ls hP hD hS (lv_sub hl [1, 2, 3, 0] rfl)
            · have hf := if_f c_72 hf
              refine lv_iload_n hx hb dX5_firstFault_75 rfl (lv_at hl 3 rfl) ?_
              exact fin' _ hf 76 ls H locs dX5_firstFault_76 rfl hP hD hS
      intro v1 v2 v3 hf H locs ls hP hD hS hl
      rw [f_X5_firstFault_6] at hf
      refine lv_iload_n hx hb dX5_firstFault_6 rfl (lv_at hl 3 rfl) ?_
      refine lv_aload_n hx hb dX5_firstFault_7 rfl (lv_at hl 0 rfl) ?_
      refine gf_X5_13 X hP 0 rfl rfl dX5_firstFault_8 ?_
      refine lv_icmp_ge (tgt := 83) hx hb dX5_firstFault_11 (by decide) (fun c_11 => ?_) (fun c_11 => ?_)
      · have hf := if_t c_11 hf
        refine lv_aload_n hx hb dX5_firstFault_83 rfl (lv_at hl 0 rfl) ?_
        refine gf_X5_13 X hP 0 rfl rfl dX5_firstFault_84 ?_
        refine lv_if_ne (tgt := 94) hx hb dX5_firstFault_87 (by decide) (fun c_87 => ?_) (fun c_87 => ?_)
        · have hf := if_f c_87 hf
          refine lv_bipush (v := (-6 : Int32)) hx hb dX5_firstFault_94 (by decide) ?_
          exact fin' _ hf 96 ls H locs dX5_firstFault_96 rfl hP hD hS
        · have hf := if_t c_87 hf
          refine lv_iconst (v := (0 : Int32)) hx hb dX5_firstFault_90 (by decide) ?_
          refine lv_goto (tgt := 96) hx hb dX5_firstFault_91 (by decide) ?_
          exact fin' _ hf 96 ls H locs dX5_firstFault_96 rfl hP hD hS
      · have hf := if_f c_11 hf
        refine lv_aload_n hx hb dX5_firstFault_14 rfl (lv_at hl 0 rfl) ?_
        refine gf_X5_9 X hP 0 rfl rfl dX5_firstFault_15 ?_
        refine lv_iload_n hx hb dX5_firstFault_18 rfl (lv_at hl 3 rfl) ?_
        obtain ⟨hi19, hf⟩ := ck_some hf
        refine r_cald X hP 1 rfl hi19 dX5_firstFault_19 ?_
        refine lv_istore (lv' := [(4, .int (x_t_pad (ix v3))), (0, .ref a_t), (1, .int v1), (2, .int v2), (3, .int v3)]) hx hb dX5_firstFault_20 hl (by decide) rfl (fun ls hl => ?_)
        refine lv_iload hx hb dX5_firstFault_22 (lv_at hl 0 rfl) ?_
        refine lv_bipush (v := (42 : Int32)) hx hb dX5_firstFault_24 (by decide) ?_
        refine lv_icmp_ne (tgt := 35) hx hb dX5_firstFault_26 (by decide) (fun c_26 => ?_) (fun c_26 => ?_)
        · have hf := if_f c_26 hf
          refine lv_iload hx hb dX5_firstFault_35 (lv_at hl 0 rfl) ?_
          refine lv_bipush (v := (63 : Int32)) hx hb dX5_firstFault_37 (by decide) ?_
          refine lv_icmp_ne (tgt := 48) hx hb dX5_firstFault_39 (by decide) (fun c_39 => ?_) (fun c_39 => ?_)
          · have hf := if_f c_39 hf
            refine lv_iload hx hb dX5_firstFault_48 (lv_at hl 0 rfl) ?_
            refine lv_iconst (v := (1 : Int32)) hx hb dX5_firstFault_50 (by decide) ?_
            obtain ⟨r51, hc51, hf⟩ := bd_some hf
            refine cS_I X hA hP hD hS hl.1 (c_X5_countOf l E (x_t_pad (ix v3)) (1 : Int32) r51 hc51) 2 k_324 mw_X5_countOf hd_X5_countOf ⟨Nat.le_of_ble_eq_true rfl, Nat.le_of_ble_eq_true rfl⟩ [] [0, 1] [0, 1] rfl rfl (wr := [0, 1].filterMap (fun i => (wd_X5_firstFault E a_t a_t_pad x_t_signs w_t_table w_t_images w_t_pack w_t_row w_t_chances w_t_writing w_t_guess x_t_pad)[i]?)) rfl rfl rfl rfl rfl (Nat.le_of_ble_eq_true rfl) rfl (ws' := (wd_X5_firstFault E a_t a_t_pad x_t_signs w_t_table w_t_images w_t_pack w_t_row w_t_chances w_t_writing w_t_guess x_t_pad)) rfl ⟨Nat.le_of_ble_eq_true rfl, Nat.le_of_ble_eq_true rfl⟩ dX5_firstFault_51 (fun H locs hP hD hS => ?_)
            refine lv_if_ne (tgt := 59) hx hb dX5_firstFault_54 (by decide) (fun c_54 => ?_) (fun c_54 => ?_)
            · have hf := if_f c_54 hf
              exact L59 v1 v2 v3 hf H locs ls hP hD hS (lv_sub hl [1, 2, 3, 4] rfl)
            · have hf := if_t c_54 hf
              refine lv_iload_n hx hb dX5_firstFault_57 rfl (lv_at hl 4 rfl) ?_
              exact fin' _ hf 58 ls H locs dX5_firstFault_58 rfl hP hD hS
          · have hf := if_t c_39 hf
            refine lv_iinc (v := (v2 + (1 : Int32))) (lv' := [(2, .int (v2 + (1 : Int32))), (4, .int (x_t_pad (ix v3))), (0, .ref a_t), (1, .int v1), (3, .int v3)]) hx hb dX5_firstFault_42 hl (k := 3) rfl rfl (by decide) rfl (fun ls hl => ?_)
            refine lv_goto (tgt := 59) hx hb dX5_firstFault_45 (by decide) ?_
            exact L59 v1 (v2 + (1 : Int32)) v3 hf H locs ls hP hD hS (lv_sub hl [2, 3, 0, 4] rfl)
        · have hf := if_t c_26 hf
          refine lv_iinc (v := (v1 + (1 : Int32))) (lv' := [(1, .int (v1 + (1 : Int32))), (4, .int (x_t_pad (ix v3))), (0, .ref a_t), (2, .int v2), (3, .int v3)]) hx hb dX5_firstFault_29 hl (k := 2) rfl rfl (by decide) rfl (fun ls hl => ?_)
          refine lv_goto (tgt := 59) hx hb dX5_firstFault_32 (by decide) ?_
          exact L59 (v1 + (1 : Int32)) v2 v3 hf H locs ls hP hD hS (lv_sub hl [2, 0, 3, 4] rfl)
  have hS : va_S A s.heap s.heap [] := va_S.rf
  obtain ⟨H, hH9⟩ : ∃ z, z = s.heap := ⟨_, rfl⟩
  obtain ⟨locs, hL9⟩ : ∃ z : List Loc, z = [] := ⟨_, rfl⟩
  rw [← hL9]
  rw [← hL9] at hS
  have hP : va_P E.1 vwCl (wd_X5_firstFault E a_t a_t_pad x_t_signs w_t_table w_t_images w_t_pack w_t_row w_t_chances w_t_writing w_t_guess x_t_pad) H := by rw [hH9]; exact hP
  have hS : va_S A s.heap H locs := by rw [hH9]; exact hS
  suffices hgoal : W p l e (rmm 1 21) s m ([.ref a_t] : List Value).toArray below meth c H locs 0 0 Q (F0 m 0 ls []) by rw [hH9] at hgoal; exact hgoal
  rw [f_X5_firstFault] at hf
  refine lv_iconst (v := (0 : Int32)) hx hb dX5_firstFault_0 (by decide) ?_
  refine lv_istore_n (lv' := [(1, .int (0 : Int32)), (0, .ref a_t)]) hx hb dX5_firstFault_1 rfl hl (by decide) rfl (fun ls hl => ?_)
  refine lv_iconst (v := (0 : Int32)) hx hb dX5_firstFault_2 (by decide) ?_
  refine lv_istore_n (lv' := [(2, .int (0 : Int32)), (1, .int (0 : Int32)), (0, .ref a_t)]) hx hb dX5_firstFault_3 rfl hl (by decide) rfl (fun ls hl => ?_)
  refine lv_iconst (v := (0 : Int32)) hx hb dX5_firstFault_4 (by decide) ?_
  refine lv_istore_n (lv' := [(3, .int (0 : Int32)), (2, .int (0 : Int32)), (1, .int (0 : Int32)), (0, .ref a_t)]) hx hb dX5_firstFault_5 rfl hl (by decide) rfl (fun ls hl => ?_)
  exact L6 FU (0 : Int32) (0 : Int32) (0 : Int32) hf H locs ls hP hD hS (lv_sub hl [3, 2, 1, 0] rfl)
abbrev wd_X5_fault (E : EN) (a_t : Nat) (a_t_pad : Nat) (x_t_signs : Int32) (w_t_table : Value) (w_t_images : Value) (w_t_pack : Value) (w_t_row : Value) (w_t_chances : Value) (w_t_writing : Value) (w_t_guess : Value) (x_t_pad : Nat → Int32) : va_W := [(a_t, e_O 5 [.ref a_t_pad, .int x_t_signs, w_t_table, w_t_images, w_t_pack, w_t_row, w_t_chances, w_t_writing, w_t_guess]), (a_t_pad, e_C E 48 x_t_pad)]
def f_X5_fault (x_t_signs : Int32) (x_t_pad : Nat → Int32) : Option (Int32) :=
  Option.bind (f_X5_firstFault x_t_signs x_t_pad) (fun r1 =>
  some r1)
set_option maxHeartbeats 4000000 in
set_option maxRecDepth 100000 in
theorem c_X5_fault (l : Launch) (E : EN) (a_t a_t_pad : Nat) (x_t_signs : Int32) (w_t_table : Value) (w_t_images : Value) (w_t_pack : Value) (w_t_row : Value) (w_t_chances : Value) (w_t_writing : Value) (w_t_guess : Value) (x_t_pad : Nat → Int32)  (res : Int32) (hf : f_X5_fault x_t_signs x_t_pad = some res) : CtI l yX5_fault cX5_fault 1 .int 2 45 E [.ref a_t] (wd_X5_fault E a_t a_t_pad x_t_signs w_t_table w_t_images w_t_pack w_t_row w_t_chances w_t_writing w_t_guess x_t_pad) (wd_X5_fault E a_t a_t_pad x_t_signs w_t_table w_t_images w_t_pack w_t_row w_t_chances w_t_writing w_t_guess x_t_pad) res := by
  refine CtI.of RX5 (by decide) rfl (Nat.le_of_ble_eq_true rfl) ?_
  intro p e s m below meth c A Q ls X hA hP hD hl fin
  have hx := X.1
  have hb := X.2.1
  have hl : lv_has ls 1 [(0, .ref a_t)] := hl
  have fin' : ∀ (fr0 : Int32), some fr0 = some res → ∀ (pc : Nat) (ls : Array Slot) (H : Heap) (locs : List Loc), decode cX5_fault pc = .ok (.ireturn, 1) → narrow .int (.int fr0) = .int fr0 → va_P E.1 vwCl (wd_X5_fault E a_t a_t_pad x_t_signs w_t_table w_t_images w_t_pack w_t_row w_t_chances w_t_writing w_t_guess x_t_pad) H → va_D A (wd_X5_fault E a_t a_t_pad x_t_signs w_t_table w_t_images w_t_pack w_t_row w_t_chances w_t_writing w_t_guess x_t_pad) → va_S A s.heap H locs → W p l e (rmm 2 45) s m ([.ref a_t] : List Value).toArray below meth c H locs 0 0 Q (F0 m pc ls [.int fr0]) := by
    intro fr0 he
    cases he
    exact fin
  have hS : va_S A s.heap s.heap [] := va_S.rf
  obtain ⟨H, hH9⟩ : ∃ z, z = s.heap := ⟨_, rfl⟩
  obtain ⟨locs, hL9⟩ : ∃ z : List Loc, z = [] := ⟨_, rfl⟩
  rw [← hL9]
  rw [← hL9] at hS
  have hP : va_P E.1 vwCl (wd_X5_fault E a_t a_t_pad x_t_signs w_t_table w_t_images w_t_pack w_t_row w_t_chances w_t_writing w_t_guess x_t_pad) H := by rw [hH9]; exact hP
  have hS : va_S A s.heap H locs := by rw [hH9]; exact hS
  suffices hgoal : W p l e (rmm 2 45) s m ([.ref a_t] : List Value).toArray below meth c H locs 0 0 Q (F0 m 0 ls []) by rw [hH9] at hgoal; exact hgoal
  rw [f_X5_fault] at hf
  refine lv_aload_n hx hb dX5_fault_0 rfl (lv_at hl 0 rfl) ?_
  obtain ⟨r1, hc1, hf⟩ := bd_some hf
  refine cV_I X hA hP hD hS hl.1 (c_X5_firstFault l E a_t a_t_pad x_t_signs w_t_table w_t_images w_t_pack w_t_row w_t_chances w_t_writing w_t_guess x_t_pad r1 hc1) 0 k_320 mw_X5_firstFault hd_X5_firstFault ⟨Nat.le_of_ble_eq_true rfl, Nat.le_of_ble_eq_true rfl⟩ [0, 1] [] [0, 1] rfl rfl (wr := []) rfl rfl rfl 5 0 rfl rfl rfl rfl rfl (Nat.le_of_ble_eq_true rfl) rfl (ws' := (wd_X5_fault E a_t a_t_pad x_t_signs w_t_table w_t_images w_t_pack w_t_row w_t_chances w_t_writing w_t_guess x_t_pad)) rfl ⟨Nat.le_of_ble_eq_true rfl, Nat.le_of_ble_eq_true rfl⟩ dX5_fault_1 (fun H locs hP hD hS => ?_)
  exact fin' _ hf 4 ls H locs dX5_fault_4 rfl hP hD hS
abbrev wd_X5_page (E : EN) (a_t : Nat) (a_t_pad : Nat) (a_t_table : Nat) (a_t_table_text : Nat) (x_t_signs : Int32) (w_t_images : Value) (w_t_pack : Value) (w_t_row : Value) (w_t_chances : Value) (w_t_writing : Value) (w_t_guess : Value) (x_t_pad : Nat → Int32) (w_t_table_weights : Value) (w_t_table_sightFrom : Value) (w_t_table_sightOut : Value) (x_t_table_places : Int32) (x_t_table_beginnings : Int32) (x_t_table_courtCount : Int32) (x_t_table_allowed : Int32) (x_t_table_sights : Int32) (x_t_table_kept : Int32) (x_t_table_text : Nat → Int32) : va_W := [(a_t, e_O 5 [.ref a_t_pad, .int x_t_signs, .ref a_t_table, w_t_images, w_t_pack, w_t_row, w_t_chances, w_t_writing, w_t_guess]), (a_t_pad, e_C E 48 x_t_pad), (a_t_table, e_O 3 [.ref a_t_table_text, w_t_table_weights, w_t_table_sightFrom, w_t_table_sightOut, .int x_t_table_places, .int x_t_table_beginnings, .int x_t_table_courtCount, .int x_t_table_allowed, .int x_t_table_sights, .int x_t_table_kept]), (a_t_table_text, e_C E 40 x_t_table_text)]
def f_X5_page (x_t_signs : Int32) (x_t_pad : Nat → Int32) (x_t_table_places : Int32) (x_t_table_beginnings : Int32) (x_t_table_sights : Int32) (x_t_table_text : Nat → Int32) : Option (Int32 × Int32 × Int32 × Int32 × Int32 × (Nat → Int32)) :=
  Option.bind (f_X5_firstFault x_t_signs x_t_pad) (fun r1 =>
  if r1 = (-6 : Int32) then
    Option.bind (f_X3_take x_t_signs x_t_pad x_t_table_text) (fun r24 =>
    some (r24.1, (0 : Int32), r24.1, r24.2.1, r24.2.2.1, r24.2.2.2))
  else
    some ((-5 : Int32), x_t_signs, x_t_table_places, x_t_table_beginnings, x_t_table_sights, x_t_table_text))
set_option maxHeartbeats 4000000 in
set_option maxRecDepth 100000 in
theorem c_X5_page (l : Launch) (E : EN) (a_t a_t_pad a_t_table a_t_table_text : Nat) (x_t_signs : Int32) (w_t_images : Value) (w_t_pack : Value) (w_t_row : Value) (w_t_chances : Value) (w_t_writing : Value) (w_t_guess : Value) (x_t_pad : Nat → Int32) (w_t_table_weights : Value) (w_t_table_sightFrom : Value) (w_t_table_sightOut : Value) (x_t_table_places : Int32) (x_t_table_beginnings : Int32) (x_t_table_courtCount : Int32) (x_t_table_allowed : Int32) (x_t_table_sights : Int32) (x_t_table_kept : Int32) (x_t_table_text : Nat → Int32)  (res : Int32 × Int32 × Int32 × Int32 × Int32 × (Nat → Int32)) (hf : f_X5_page x_t_signs x_t_pad x_t_table_places x_t_table_beginnings x_t_table_sights x_t_table_text = some res) : CtI l yX5_page cX5_page 1 .int 2 82 E [.ref a_t] (wd_X5_page E a_t a_t_pad a_t_table a_t_table_text x_t_signs w_t_images w_t_pack w_t_row w_t_chances w_t_writing w_t_guess x_t_pad w_t_table_weights w_t_table_sightFrom w_t_table_sightOut x_t_table_places x_t_table_beginnings x_t_table_courtCount x_t_table_allowed x_t_table_sights x_t_table_kept x_t_table_text) (wd_X5_page E a_t a_t_pad a_t_table a_t_table_text res.2.1 w_t_images w_t_pack w_t_row w_t_chances w_t_writing w_t_guess x_t_pad w_t_table_weights w_t_table_sightFrom w_t_table_sightOut res.2.2.1 res.2.2.2.1 x_t_table_courtCount x_t_table_allowed res.2.2.2.2.1 x_t_table_kept res.2.2.2.2.2) res.1 := by
  refine CtI.of RX5 (by decide) rfl (Nat.le_of_ble_eq_true rfl) ?_
  intro p e s m below meth c A Q ls X hA hP hD hl fin
  have hx := X.1
  have hb := X.2.1
  have hl : lv_has ls 1 [(0, .ref a_t)] := hl
  have fin' : ∀ (fr0 : Int32) (fr1 : Int32) (fr2 : Int32) (fr3 : Int32) (fr4 : Int32) (fr5 : (Nat → Int32)), some (fr0, fr1, fr2, fr3, fr4, fr5) = some res → ∀ (pc : Nat) (ls : Array Slot) (H : Heap) (locs : List Loc), decode cX5_page pc = .ok (.ireturn, 1) → narrow .int (.int fr0) = .int fr0 → va_P E.1 vwCl (wd_X5_page E a_t a_t_pad a_t_table a_t_table_text fr1 w_t_images w_t_pack w_t_row w_t_chances w_t_writing w_t_guess x_t_pad w_t_table_weights w_t_table_sightFrom w_t_table_sightOut fr2 fr3 x_t_table_courtCount x_t_table_allowed fr4 x_t_table_kept fr5) H → va_D A (wd_X5_page E a_t a_t_pad a_t_table a_t_table_text fr1 w_t_images w_t_pack w_t_row w_t_chances w_t_writing w_t_guess x_t_pad w_t_table_weights w_t_table_sightFrom w_t_table_sightOut fr2 fr3 x_t_table_courtCount x_t_table_allowed fr4 x_t_table_kept fr5) → va_S A s.heap H locs → W p l e (rmm 2 82) s m ([.ref a_t] : List Value).toArray below meth c H locs 0 0 Q (F0 m pc ls [.int fr0]) := by
    intro fr0 fr1 fr2 fr3 fr4 fr5 he
    cases he
    exact fin
  have hS : va_S A s.heap s.heap [] := va_S.rf
  obtain ⟨H, hH9⟩ : ∃ z, z = s.heap := ⟨_, rfl⟩
  obtain ⟨locs, hL9⟩ : ∃ z : List Loc, z = [] := ⟨_, rfl⟩
  rw [← hL9]
  rw [← hL9] at hS
  have hP : va_P E.1 vwCl (wd_X5_page E a_t a_t_pad a_t_table a_t_table_text x_t_signs w_t_images w_t_pack w_t_row w_t_chances w_t_writing w_t_guess x_t_pad w_t_table_weights w_t_table_sightFrom w_t_table_sightOut x_t_table_places x_t_table_beginnings x_t_table_courtCount x_t_table_allowed x_t_table_sights x_t_table_kept x_t_table_text) H := by rw [hH9]; exact hP
  have hS : va_S A s.heap H locs := by rw [hH9]; exact hS
  suffices hgoal : W p l e (rmm 2 82) s m ([.ref a_t] : List Value).toArray below meth c H locs 0 0 Q (F0 m 0 ls []) by rw [hH9] at hgoal; exact hgoal
  rw [f_X5_page] at hf
  refine lv_aload_n hx hb dX5_page_0 rfl (lv_at hl 0 rfl) ?_
  obtain ⟨r1, hc1, hf⟩ := bd_some hf
  refine cV_I X hA hP hD hS hl.1 (c_X5_firstFault l E a_t a_t_pad x_t_signs (.ref a_t_table) w_t_images w_t_pack w_t_row w_t_chances w_t_writing w_t_guess x_t_pad r1 hc1) 0 k_320 mw_X5_firstFault hd_X5_firstFault ⟨Nat.le_of_ble_eq_true rfl, Nat.le_of_ble_eq_true rfl⟩ [0, 1] [2, 3] [2, 3, 0, 1] rfl rfl (wr := [2, 3].filterMap (fun i => (wd_X5_page E a_t a_t_pad a_t_table a_t_table_text x_t_signs w_t_images w_t_pack w_t_row w_t_chances w_t_writing w_t_guess x_t_pad w_t_table_weights w_t_table_sightFrom w_t_table_sightOut x_t_table_places x_t_table_beginnings x_t_table_courtCount x_t_table_allowed x_t_table_sights x_t_table_kept x_t_table_text)[i]?)) rfl rfl rfl 5 0 rfl rfl rfl rfl rfl (Nat.le_of_ble_eq_true rfl) rfl (ws' := (wd_X5_page E a_t a_t_pad a_t_table a_t_table_text x_t_signs w_t_images w_t_pack w_t_row w_t_chances w_t_writing w_t_guess x_t_pad w_t_table_weights w_t_table_sightFrom w_t_table_sightOut x_t_table_places x_t_table_beginnings x_t_table_courtCount x_t_table_allowed x_t_table_sights x_t_table_kept x_t_table_text)) rfl ⟨Nat.le_of_ble_eq_true rfl, Nat.le_of_ble_eq_true rfl⟩ dX5_page_1 (fun H locs hP hD hS => ?_)
  refine lv_bipush (v := (-6 : Int32)) hx hb dX5_page_4 (by decide) ?_
  refine lv_icmp_eq (tgt := 12) hx hb dX5_page_6 (by decide) (fun c_6 => ?_) (fun c_6 => ?_)
  · have hf := if_t c_6 hf
    refine lv_aload_n hx hb dX5_page_12 rfl (lv_at hl 0 rfl) ?_
    refine gf_X5_20 X hP 0 rfl rfl dX5_page_13 ?_
    refine lv_aload_n hx hb dX5_page_16 rfl (lv_at hl 0 rfl) ?_
    refine gf_X5_9 X hP 0 rfl rfl dX5_page_17 ?_
    refine lv_aload_n hx hb dX5_page_20 rfl (lv_at hl 0 rfl) ?_
    refine gf_X5_13 X hP 0 rfl rfl dX5_page_21 ?_
    obtain ⟨r24, hc24, hf⟩ := bd_some hf
    refine cV_V X hA hP hD hS hl.1 (c_X3_take l E a_t_table a_t_pad a_t_table_text w_t_table_weights w_t_table_sightFrom w_t_table_sightOut x_t_table_places x_t_table_beginnings x_t_table_courtCount x_t_table_allowed x_t_table_sights x_t_table_kept x_t_pad x_t_table_text x_t_signs r24 hc24) 2 k_331 mw_X3_take hd_X3_take ⟨Nat.le_of_ble_eq_true rfl, Nat.le_of_ble_eq_true rfl⟩ [2, 1, 3] [0] [0, 2, 1, 3] rfl rfl (wr := [0].filterMap (fun i => (wd_X5_page E a_t a_t_pad a_t_table a_t_table_text x_t_signs w_t_images w_t_pack w_t_row w_t_chances w_t_writing w_t_guess x_t_pad w_t_table_weights w_t_table_sightFrom w_t_table_sightOut x_t_table_places x_t_table_beginnings x_t_table_courtCount x_t_table_allowed x_t_table_sights x_t_table_kept x_t_table_text)[i]?)) rfl rfl rfl 3 0 rfl rfl rfl rfl rfl (Nat.le_of_ble_eq_true rfl) rfl (ws' := (wd_X5_page E a_t a_t_pad a_t_table a_t_table_text x_t_signs w_t_images w_t_pack w_t_row w_t_chances w_t_writing w_t_guess x_t_pad w_t_table_weights w_t_table_sightFrom w_t_table_sightOut r24.1 r24.2.1 x_t_table_courtCount x_t_table_allowed r24.2.2.1 x_t_table_kept r24.2.2.2)) rfl ⟨Nat.le_of_ble_eq_true rfl, Nat.le_of_ble_eq_true rfl⟩ dX5_page_24 (fun H locs hP hD hS => ?_)
    refine lv_aload_n hx hb dX5_page_27 rfl (lv_at hl 0 rfl) ?_
    refine lv_iconst (v := (0 : Int32)) hx hb dX5_page_28 (by decide) ?_
    refine pf_X5_13 X hP hD hS 0 rfl (Nat.le_of_ble_eq_true rfl) (ws' := (wd_X5_page E a_t a_t_pad a_t_table a_t_table_text (0 : Int32) w_t_images w_t_pack w_t_row w_t_chances w_t_writing w_t_guess x_t_pad w_t_table_weights w_t_table_sightFrom w_t_table_sightOut r24.1 r24.2.1 x_t_table_courtCount x_t_table_allowed r24.2.2.1 x_t_table_kept r24.2.2.2)) rfl dX5_page_29 (fun H locs hP hD hS => ?_)
    refine lv_aload_n hx hb dX5_page_32 rfl (lv_at hl 0 rfl) ?_
    refine gf_X5_20 X hP 0 rfl rfl dX5_page_33 ?_
    refine gf_X5_67 X hP 2 rfl rfl dX5_page_36 ?_
    exact fin' _ _ _ _ _ _ hf 39 ls H locs dX5_page_39 rfl hP hD hS
  · have hf := if_f c_6 hf
    refine lv_bipush (v := (-5 : Int32)) hx hb dX5_page_9 (by decide) ?_
    exact fin' _ _ _ _ _ _ hf 11 ls H locs dX5_page_11 rfl hP hD hS
abbrev wd_X5_begin (E : EN) (a_t : Nat) (a_t_table : Nat) (w_t_pad : Value) (x_t_signs : Int32) (w_t_images : Value) (w_t_pack : Value) (w_t_row : Value) (w_t_chances : Value) (w_t_writing : Value) (w_t_guess : Value) (w_t_table_text : Value) (w_t_table_weights : Value) (w_t_table_sightFrom : Value) (w_t_table_sightOut : Value) (x_t_table_places : Int32) (x_t_table_beginnings : Int32) (x_t_table_courtCount : Int32) (x_t_table_allowed : Int32) (x_t_table_sights : Int32) (x_t_table_kept : Int32) : va_W := [(a_t, e_O 5 [w_t_pad, .int x_t_signs, .ref a_t_table, w_t_images, w_t_pack, w_t_row, w_t_chances, w_t_writing, w_t_guess]), (a_t_table, e_O 3 [w_t_table_text, w_t_table_weights, w_t_table_sightFrom, w_t_table_sightOut, .int x_t_table_places, .int x_t_table_beginnings, .int x_t_table_courtCount, .int x_t_table_allowed, .int x_t_table_sights, .int x_t_table_kept])]
def f_X5_begin (p1 : Int32) (x_t_table_places : Int32) (x_t_table_beginnings : Int32) : Option (Int32 × Int32) :=
  if p1 < (1 : Int32) then
    some ((-2 : Int32), x_t_table_beginnings)
  else
    if (10 : Int32) < p1 then
      some ((-2 : Int32), x_t_table_beginnings)
    else
      if p1 ≤ x_t_table_places then
        some (x_t_table_beginnings, p1)
      else
        some ((-2 : Int32), x_t_table_beginnings)
set_option maxHeartbeats 4000000 in
set_option maxRecDepth 100000 in
theorem c_X5_begin (l : Launch) (E : EN) (a_t a_t_table : Nat) (w_t_pad : Value) (x_t_signs : Int32) (w_t_images : Value) (w_t_pack : Value) (w_t_row : Value) (w_t_chances : Value) (w_t_writing : Value) (w_t_guess : Value) (w_t_table_text : Value) (w_t_table_weights : Value) (w_t_table_sightFrom : Value) (w_t_table_sightOut : Value) (x_t_table_places : Int32) (x_t_table_beginnings : Int32) (x_t_table_courtCount : Int32) (x_t_table_allowed : Int32) (x_t_table_sights : Int32) (x_t_table_kept : Int32) (p1 : Int32) (res : Int32 × Int32) (hf : f_X5_begin p1 x_t_table_places x_t_table_beginnings = some res) : CtI l yX5_begin cX5_begin 3 .int 0 0 E [.ref a_t, .int p1] (wd_X5_begin E a_t a_t_table w_t_pad x_t_signs w_t_images w_t_pack w_t_row w_t_chances w_t_writing w_t_guess w_t_table_text w_t_table_weights w_t_table_sightFrom w_t_table_sightOut x_t_table_places x_t_table_beginnings x_t_table_courtCount x_t_table_allowed x_t_table_sights x_t_table_kept) (wd_X5_begin E a_t a_t_table w_t_pad x_t_signs w_t_images w_t_pack w_t_row w_t_chances w_t_writing w_t_guess w_t_table_text w_t_table_weights w_t_table_sightFrom w_t_table_sightOut x_t_table_places res.2 x_t_table_courtCount x_t_table_allowed x_t_table_sights x_t_table_kept) res.1 := by
  refine CtI.of RX5 (by decide) rfl (Nat.le_of_ble_eq_true rfl) ?_
  intro p e s m below meth c A Q ls X hA hP hD hl fin
  have hx := X.1
  have hb := X.2.1
  have hl : lv_has ls 3 [(0, .ref a_t), (1, .int p1)] := hl
  have fin' : ∀ (fr0 : Int32) (fr1 : Int32), some (fr0, fr1) = some res → ∀ (pc : Nat) (ls : Array Slot) (H : Heap) (locs : List Loc), decode cX5_begin pc = .ok (.ireturn, 1) → narrow .int (.int fr0) = .int fr0 → va_P E.1 vwCl (wd_X5_begin E a_t a_t_table w_t_pad x_t_signs w_t_images w_t_pack w_t_row w_t_chances w_t_writing w_t_guess w_t_table_text w_t_table_weights w_t_table_sightFrom w_t_table_sightOut x_t_table_places fr1 x_t_table_courtCount x_t_table_allowed x_t_table_sights x_t_table_kept) H → va_D A (wd_X5_begin E a_t a_t_table w_t_pad x_t_signs w_t_images w_t_pack w_t_row w_t_chances w_t_writing w_t_guess w_t_table_text w_t_table_weights w_t_table_sightFrom w_t_table_sightOut x_t_table_places fr1 x_t_table_courtCount x_t_table_allowed x_t_table_sights x_t_table_kept) → va_S A s.heap H locs → W p l e (rmm 0 0) s m ([.ref a_t, .int p1] : List Value).toArray below meth c H locs 0 0 Q (F0 m pc ls [.int fr0]) := by
    intro fr0 fr1 he
    cases he
    exact fin
  have hS : va_S A s.heap s.heap [] := va_S.rf
  obtain ⟨H, hH9⟩ : ∃ z, z = s.heap := ⟨_, rfl⟩
  obtain ⟨locs, hL9⟩ : ∃ z : List Loc, z = [] := ⟨_, rfl⟩
  rw [← hL9]
  rw [← hL9] at hS
  have hP : va_P E.1 vwCl (wd_X5_begin E a_t a_t_table w_t_pad x_t_signs w_t_images w_t_pack w_t_row w_t_chances w_t_writing w_t_guess w_t_table_text w_t_table_weights w_t_table_sightFrom w_t_table_sightOut x_t_table_places x_t_table_beginnings x_t_table_courtCount x_t_table_allowed x_t_table_sights x_t_table_kept) H := by rw [hH9]; exact hP
  have hS : va_S A s.heap H locs := by rw [hH9]; exact hS
  suffices hgoal : W p l e (rmm 0 0) s m ([.ref a_t, .int p1] : List Value).toArray below meth c H locs 0 0 Q (F0 m 0 ls []) by rw [hH9] at hgoal; exact hgoal
  rw [f_X5_begin] at hf
  refine lv_iload_n hx hb dX5_begin_0 rfl (lv_at hl 1 rfl) ?_
  refine lv_iconst (v := (1 : Int32)) hx hb dX5_begin_1 (by decide) ?_
  refine lv_icmp_lt (tgt := 22) hx hb dX5_begin_2 (by decide) (fun c_2 => ?_) (fun c_2 => ?_)
  · have hf := if_t c_2 hf
    refine lv_bipush (v := (-2 : Int32)) hx hb dX5_begin_22 (by decide) ?_
    exact fin' _ _ hf 24 ls H locs dX5_begin_24 rfl hP hD hS
  · have hf := if_f c_2 hf
    refine lv_iload_n hx hb dX5_begin_5 rfl (lv_at hl 1 rfl) ?_
    refine lv_bipush (v := (10 : Int32)) hx hb dX5_begin_6 (by decide) ?_
    refine lv_icmp_gt (tgt := 22) hx hb dX5_begin_8 (by decide) (fun c_8 => ?_) (fun c_8 => ?_)
    · have hf := if_t c_8 hf
      refine lv_bipush (v := (-2 : Int32)) hx hb dX5_begin_22 (by decide) ?_
      exact fin' _ _ hf 24 ls H locs dX5_begin_24 rfl hP hD hS
    · have hf := if_f c_8 hf
      refine lv_iload_n hx hb dX5_begin_11 rfl (lv_at hl 1 rfl) ?_
      refine lv_aload_n hx hb dX5_begin_12 rfl (lv_at hl 0 rfl) ?_
      refine gf_X5_20 X hP 0 rfl rfl dX5_begin_13 ?_
      refine gf_X5_67 X hP 1 rfl rfl dX5_begin_16 ?_
      refine lv_icmp_le (tgt := 25) hx hb dX5_begin_19 (by decide) (fun c_19 => ?_) (fun c_19 => ?_)
      · have hf := if_t c_19 hf
        refine lv_aload_n hx hb dX5_begin_25 rfl (lv_at hl 0 rfl) ?_
        refine gf_X5_20 X hP 0 rfl rfl dX5_begin_26 ?_
        refine gf_X5_70 X hP 1 rfl rfl dX5_begin_29 ?_
        refine lv_istore_n (lv' := [(2, .int x_t_table_beginnings), (0, .ref a_t), (1, .int p1)]) hx hb dX5_begin_32 rfl hl (by decide) rfl (fun ls hl => ?_)
        refine lv_aload_n hx hb dX5_begin_33 rfl (lv_at hl 1 rfl) ?_
        refine gf_X5_20 X hP 0 rfl rfl dX5_begin_34 ?_
        refine lv_iload_n hx hb dX5_begin_37 rfl (lv_at hl 2 rfl) ?_
        refine pf_X5_70 X hP hD hS 1 rfl (Nat.le_of_ble_eq_true rfl) (ws' := (wd_X5_begin E a_t a_t_table w_t_pad x_t_signs w_t_images w_t_pack w_t_row w_t_chances w_t_writing w_t_guess w_t_table_text w_t_table_weights w_t_table_sightFrom w_t_table_sightOut x_t_table_places p1 x_t_table_courtCount x_t_table_allowed x_t_table_sights x_t_table_kept)) rfl dX5_begin_38 (fun H locs hP hD hS => ?_)
        refine lv_iload_n hx hb dX5_begin_41 rfl (lv_at hl 0 rfl) ?_
        exact fin' _ _ hf 42 ls H locs dX5_begin_42 rfl hP hD hS
      · have hf := if_f c_19 hf
        refine lv_bipush (v := (-2 : Int32)) hx hb dX5_begin_22 (by decide) ?_
        exact fin' _ _ hf 24 ls H locs dX5_begin_24 rfl hP hD hS
abbrev wd_X5_court (E : EN) (a_t : Nat) (a_t_table : Nat) (w_t_pad : Value) (x_t_signs : Int32) (w_t_images : Value) (w_t_pack : Value) (w_t_row : Value) (w_t_chances : Value) (w_t_writing : Value) (w_t_guess : Value) (w_t_table_text : Value) (w_t_table_weights : Value) (w_t_table_sightFrom : Value) (w_t_table_sightOut : Value) (x_t_table_places : Int32) (x_t_table_beginnings : Int32) (x_t_table_courtCount : Int32) (x_t_table_allowed : Int32) (x_t_table_sights : Int32) (x_t_table_kept : Int32) : va_W := [(a_t, e_O 5 [w_t_pad, .int x_t_signs, .ref a_t_table, w_t_images, w_t_pack, w_t_row, w_t_chances, w_t_writing, w_t_guess]), (a_t_table, e_O 3 [w_t_table_text, w_t_table_weights, w_t_table_sightFrom, w_t_table_sightOut, .int x_t_table_places, .int x_t_table_beginnings, .int x_t_table_courtCount, .int x_t_table_allowed, .int x_t_table_sights, .int x_t_table_kept])]
def f_X5_court (p1 : Int32) (x_t_table_courtCount : Int32) : Option (Int32 × Int32) :=
  Option.bind (f_X5_isCount p1) (fun r1 =>
  if r1 = 0 then
    some ((-2 : Int32), x_t_table_courtCount)
  else
    some (x_t_table_courtCount, p1))
set_option maxHeartbeats 4000000 in
set_option maxRecDepth 100000 in
theorem c_X5_court (l : Launch) (E : EN) (a_t a_t_table : Nat) (w_t_pad : Value) (x_t_signs : Int32) (w_t_images : Value) (w_t_pack : Value) (w_t_row : Value) (w_t_chances : Value) (w_t_writing : Value) (w_t_guess : Value) (w_t_table_text : Value) (w_t_table_weights : Value) (w_t_table_sightFrom : Value) (w_t_table_sightOut : Value) (x_t_table_places : Int32) (x_t_table_beginnings : Int32) (x_t_table_courtCount : Int32) (x_t_table_allowed : Int32) (x_t_table_sights : Int32) (x_t_table_kept : Int32) (p1 : Int32) (res : Int32 × Int32) (hf : f_X5_court p1 x_t_table_courtCount = some res) : CtI l yX5_court cX5_court 3 .int 1 20 E [.ref a_t, .int p1] (wd_X5_court E a_t a_t_table w_t_pad x_t_signs w_t_images w_t_pack w_t_row w_t_chances w_t_writing w_t_guess w_t_table_text w_t_table_weights w_t_table_sightFrom w_t_table_sightOut x_t_table_places x_t_table_beginnings x_t_table_courtCount x_t_table_allowed x_t_table_sights x_t_table_kept) (wd_X5_court E a_t a_t_table w_t_pad x_t_signs w_t_images w_t_pack w_t_row w_t_chances w_t_writing w_t_guess w_t_table_text w_t_table_weights w_t_table_sightFrom w_t_table_sightOut x_t_table_places x_t_table_beginnings res.2 x_t_table_allowed x_t_table_sights x_t_table_kept) res.1 := by
  refine CtI.of RX5 (by decide) rfl (Nat.le_of_ble_eq_true rfl) ?_
  intro p e s m below meth c A Q ls X hA hP hD hl fin
  have hx := X.1
  have hb := X.2.1
  have hl : lv_has ls 3 [(0, .ref a_t), (1, .int p1)] := hl
  have fin' : ∀ (fr0 : Int32) (fr1 : Int32), some (fr0, fr1) = some res → ∀ (pc : Nat) (ls : Array Slot) (H : Heap) (locs : List Loc), decode cX5_court pc = .ok (.ireturn, 1) → narrow .int (.int fr0) = .int fr0 → va_P E.1 vwCl (wd_X5_court E a_t a_t_table w_t_pad x_t_signs w_t_images w_t_pack w_t_row w_t_chances w_t_writing w_t_guess w_t_table_text w_t_table_weights w_t_table_sightFrom w_t_table_sightOut x_t_table_places x_t_table_beginnings fr1 x_t_table_allowed x_t_table_sights x_t_table_kept) H → va_D A (wd_X5_court E a_t a_t_table w_t_pad x_t_signs w_t_images w_t_pack w_t_row w_t_chances w_t_writing w_t_guess w_t_table_text w_t_table_weights w_t_table_sightFrom w_t_table_sightOut x_t_table_places x_t_table_beginnings fr1 x_t_table_allowed x_t_table_sights x_t_table_kept) → va_S A s.heap H locs → W p l e (rmm 1 20) s m ([.ref a_t, .int p1] : List Value).toArray below meth c H locs 0 0 Q (F0 m pc ls [.int fr0]) := by
    intro fr0 fr1 he
    cases he
    exact fin
  have hS : va_S A s.heap s.heap [] := va_S.rf
  obtain ⟨H, hH9⟩ : ∃ z, z = s.heap := ⟨_, rfl⟩
  obtain ⟨locs, hL9⟩ : ∃ z : List Loc, z = [] := ⟨_, rfl⟩
  rw [← hL9]
  rw [← hL9] at hS
  have hP : va_P E.1 vwCl (wd_X5_court E a_t a_t_table w_t_pad x_t_signs w_t_images w_t_pack w_t_row w_t_chances w_t_writing w_t_guess w_t_table_text w_t_table_weights w_t_table_sightFrom w_t_table_sightOut x_t_table_places x_t_table_beginnings x_t_table_courtCount x_t_table_allowed x_t_table_sights x_t_table_kept) H := by rw [hH9]; exact hP
  have hS : va_S A s.heap H locs := by rw [hH9]; exact hS
  suffices hgoal : W p l e (rmm 1 20) s m ([.ref a_t, .int p1] : List Value).toArray below meth c H locs 0 0 Q (F0 m 0 ls []) by rw [hH9] at hgoal; exact hgoal
  rw [f_X5_court] at hf
  refine lv_iload_n hx hb dX5_court_0 rfl (lv_at hl 1 rfl) ?_
  obtain ⟨r1, hc1, hf⟩ := bd_some hf
  refine cS_I X hA hP hD hS hl.1 (c_X5_isCount l E p1 r1 hc1) 1 k_349 mw_X5_isCount hd_X5_isCount ⟨Nat.le_of_ble_eq_true rfl, Nat.le_of_ble_eq_true rfl⟩ [] [0, 1] [0, 1] rfl rfl (wr := [0, 1].filterMap (fun i => (wd_X5_court E a_t a_t_table w_t_pad x_t_signs w_t_images w_t_pack w_t_row w_t_chances w_t_writing w_t_guess w_t_table_text w_t_table_weights w_t_table_sightFrom w_t_table_sightOut x_t_table_places x_t_table_beginnings x_t_table_courtCount x_t_table_allowed x_t_table_sights x_t_table_kept)[i]?)) rfl rfl rfl rfl rfl (Nat.le_of_ble_eq_true rfl) rfl (ws' := (wd_X5_court E a_t a_t_table w_t_pad x_t_signs w_t_images w_t_pack w_t_row w_t_chances w_t_writing w_t_guess w_t_table_text w_t_table_weights w_t_table_sightFrom w_t_table_sightOut x_t_table_places x_t_table_beginnings x_t_table_courtCount x_t_table_allowed x_t_table_sights x_t_table_kept)) rfl ⟨Nat.le_of_ble_eq_true rfl, Nat.le_of_ble_eq_true rfl⟩ dX5_court_1 (fun H locs hP hD hS => ?_)
  refine lv_if_ne (tgt := 10) hx hb dX5_court_4 (by decide) (fun c_4 => ?_) (fun c_4 => ?_)
  · have hf := if_f c_4 hf
    refine lv_aload_n hx hb dX5_court_10 rfl (lv_at hl 0 rfl) ?_
    refine gf_X5_20 X hP 0 rfl rfl dX5_court_11 ?_
    refine gf_X5_77 X hP 1 rfl rfl dX5_court_14 ?_
    refine lv_istore_n (lv' := [(2, .int x_t_table_courtCount), (0, .ref a_t), (1, .int p1)]) hx hb dX5_court_17 rfl hl (by decide) rfl (fun ls hl => ?_)
    refine lv_aload_n hx hb dX5_court_18 rfl (lv_at hl 1 rfl) ?_
    refine gf_X5_20 X hP 0 rfl rfl dX5_court_19 ?_
    refine lv_iload_n hx hb dX5_court_22 rfl (lv_at hl 2 rfl) ?_
    refine pf_X5_77 X hP hD hS 1 rfl (Nat.le_of_ble_eq_true rfl) (ws' := (wd_X5_court E a_t a_t_table w_t_pad x_t_signs w_t_images w_t_pack w_t_row w_t_chances w_t_writing w_t_guess w_t_table_text w_t_table_weights w_t_table_sightFrom w_t_table_sightOut x_t_table_places x_t_table_beginnings p1 x_t_table_allowed x_t_table_sights x_t_table_kept)) rfl dX5_court_23 (fun H locs hP hD hS => ?_)
    refine lv_iload_n hx hb dX5_court_26 rfl (lv_at hl 0 rfl) ?_
    exact fin' _ _ hf 27 ls H locs dX5_court_27 rfl hP hD hS
  · have hf := if_t c_4 hf
    refine lv_bipush (v := (-2 : Int32)) hx hb dX5_court_7 (by decide) ?_
    exact fin' _ _ hf 9 ls H locs dX5_court_9 rfl hP hD hS
abbrev wd_X5_allow (E : EN) (a_t : Nat) (a_t_table : Nat) (w_t_pad : Value) (x_t_signs : Int32) (w_t_images : Value) (w_t_pack : Value) (w_t_row : Value) (w_t_chances : Value) (w_t_writing : Value) (w_t_guess : Value) (w_t_table_text : Value) (w_t_table_weights : Value) (w_t_table_sightFrom : Value) (w_t_table_sightOut : Value) (x_t_table_places : Int32) (x_t_table_beginnings : Int32) (x_t_table_courtCount : Int32) (x_t_table_allowed : Int32) (x_t_table_sights : Int32) (x_t_table_kept : Int32) : va_W := [(a_t, e_O 5 [w_t_pad, .int x_t_signs, .ref a_t_table, w_t_images, w_t_pack, w_t_row, w_t_chances, w_t_writing, w_t_guess]), (a_t_table, e_O 3 [w_t_table_text, w_t_table_weights, w_t_table_sightFrom, w_t_table_sightOut, .int x_t_table_places, .int x_t_table_beginnings, .int x_t_table_courtCount, .int x_t_table_allowed, .int x_t_table_sights, .int x_t_table_kept])]
def f_X5_allow (p1 : Int32) (x_t_table_allowed : Int32) : Option (Int32 × Int32) :=
  if p1 = 0 then
    some ((-2 : Int32), x_t_table_allowed)
  else
    if (p1 &&& (-2047 : Int32)) = 0 then
      some (x_t_table_allowed, p1)
    else
      some ((-2 : Int32), x_t_table_allowed)
set_option maxHeartbeats 4000000 in
set_option maxRecDepth 100000 in
theorem c_X5_allow (l : Launch) (E : EN) (a_t a_t_table : Nat) (w_t_pad : Value) (x_t_signs : Int32) (w_t_images : Value) (w_t_pack : Value) (w_t_row : Value) (w_t_chances : Value) (w_t_writing : Value) (w_t_guess : Value) (w_t_table_text : Value) (w_t_table_weights : Value) (w_t_table_sightFrom : Value) (w_t_table_sightOut : Value) (x_t_table_places : Int32) (x_t_table_beginnings : Int32) (x_t_table_courtCount : Int32) (x_t_table_allowed : Int32) (x_t_table_sights : Int32) (x_t_table_kept : Int32) (p1 : Int32) (res : Int32 × Int32) (hf : f_X5_allow p1 x_t_table_allowed = some res) : CtI l yX5_allow cX5_allow 3 .int 0 0 E [.ref a_t, .int p1] (wd_X5_allow E a_t a_t_table w_t_pad x_t_signs w_t_images w_t_pack w_t_row w_t_chances w_t_writing w_t_guess w_t_table_text w_t_table_weights w_t_table_sightFrom w_t_table_sightOut x_t_table_places x_t_table_beginnings x_t_table_courtCount x_t_table_allowed x_t_table_sights x_t_table_kept) (wd_X5_allow E a_t a_t_table w_t_pad x_t_signs w_t_images w_t_pack w_t_row w_t_chances w_t_writing w_t_guess w_t_table_text w_t_table_weights w_t_table_sightFrom w_t_table_sightOut x_t_table_places x_t_table_beginnings x_t_table_courtCount res.2 x_t_table_sights x_t_table_kept) res.1 := by
  refine CtI.of RX5 (by decide) rfl (Nat.le_of_ble_eq_true rfl) ?_
  intro p e s m below meth c A Q ls X hA hP hD hl fin
  have hx := X.1
  have hb := X.2.1
  have hl : lv_has ls 3 [(0, .ref a_t), (1, .int p1)] := hl
  have fin' : ∀ (fr0 : Int32) (fr1 : Int32), some (fr0, fr1) = some res → ∀ (pc : Nat) (ls : Array Slot) (H : Heap) (locs : List Loc), decode cX5_allow pc = .ok (.ireturn, 1) → narrow .int (.int fr0) = .int fr0 → va_P E.1 vwCl (wd_X5_allow E a_t a_t_table w_t_pad x_t_signs w_t_images w_t_pack w_t_row w_t_chances w_t_writing w_t_guess w_t_table_text w_t_table_weights w_t_table_sightFrom w_t_table_sightOut x_t_table_places x_t_table_beginnings x_t_table_courtCount fr1 x_t_table_sights x_t_table_kept) H → va_D A (wd_X5_allow E a_t a_t_table w_t_pad x_t_signs w_t_images w_t_pack w_t_row w_t_chances w_t_writing w_t_guess w_t_table_text w_t_table_weights w_t_table_sightFrom w_t_table_sightOut x_t_table_places x_t_table_beginnings x_t_table_courtCount fr1 x_t_table_sights x_t_table_kept) → va_S A s.heap H locs → W p l e (rmm 0 0) s m ([.ref a_t, .int p1] : List Value).toArray below meth c H locs 0 0 Q (F0 m pc ls [.int fr0]) := by
    intro fr0 fr1 he
    cases he
    exact fin
  have hS : va_S A s.heap s.heap [] := va_S.rf
  obtain ⟨H, hH9⟩ : ∃ z, z = s.heap := ⟨_, rfl⟩
  obtain ⟨locs, hL9⟩ : ∃ z : List Loc, z = [] := ⟨_, rfl⟩
  rw [← hL9]
  rw [← hL9] at hS
  have hP : va_P E.1 vwCl (wd_X5_allow E a_t a_t_table w_t_pad x_t_signs w_t_images w_t_pack w_t_row w_t_chances w_t_writing w_t_guess w_t_table_text w_t_table_weights w_t_table_sightFrom w_t_table_sightOut x_t_table_places x_t_table_beginnings x_t_table_courtCount x_t_table_allowed x_t_table_sights x_t_table_kept) H := by rw [hH9]; exact hP
  have hS : va_S A s.heap H locs := by rw [hH9]; exact hS
  suffices hgoal : W p l e (rmm 0 0) s m ([.ref a_t, .int p1] : List Value).toArray below meth c H locs 0 0 Q (F0 m 0 ls []) by rw [hH9] at hgoal; exact hgoal
  rw [f_X5_allow] at hf
  refine lv_iload_n hx hb dX5_allow_0 rfl (lv_at hl 1 rfl) ?_
  refine lv_if_eq (tgt := 12) hx hb dX5_allow_1 (by decide) (fun c_1 => ?_) (fun c_1 => ?_)
  · have hf := if_t c_1 hf
    refine lv_bipush (v := (-2 : Int32)) hx hb dX5_allow_12 (by decide) ?_
    exact fin' _ _ hf 14 ls H locs dX5_allow_14 rfl hP hD hS
  · have hf := if_f c_1 hf
    refine lv_iload_n hx hb dX5_allow_4 rfl (lv_at hl 1 rfl) ?_
    refine lv_sipush (v := (-2047 : Int32)) hx hb dX5_allow_5 (by decide) ?_
    refine lv_iand hx hb dX5_allow_8 ?_
    refine lv_if_eq (tgt := 15) hx hb dX5_allow_9 (by decide) (fun c_9 => ?_) (fun c_9 => ?_)
    · have hf := if_t c_9 hf
      refine lv_aload_n hx hb dX5_allow_15 rfl (lv_at hl 0 rfl) ?_
      refine gf_X5_20 X hP 0 rfl rfl dX5_allow_16 ?_
      refine gf_X5_80 X hP 1 rfl rfl dX5_allow_19 ?_
      refine lv_istore_n (lv' := [(2, .int x_t_table_allowed), (0, .ref a_t), (1, .int p1)]) hx hb dX5_allow_22 rfl hl (by decide) rfl (fun ls hl => ?_)
      refine lv_aload_n hx hb dX5_allow_23 rfl (lv_at hl 1 rfl) ?_
      refine gf_X5_20 X hP 0 rfl rfl dX5_allow_24 ?_
      refine lv_iload_n hx hb dX5_allow_27 rfl (lv_at hl 2 rfl) ?_
      refine pf_X5_80 X hP hD hS 1 rfl (Nat.le_of_ble_eq_true rfl) (ws' := (wd_X5_allow E a_t a_t_table w_t_pad x_t_signs w_t_images w_t_pack w_t_row w_t_chances w_t_writing w_t_guess w_t_table_text w_t_table_weights w_t_table_sightFrom w_t_table_sightOut x_t_table_places x_t_table_beginnings x_t_table_courtCount p1 x_t_table_sights x_t_table_kept)) rfl dX5_allow_28 (fun H locs hP hD hS => ?_)
      refine lv_iload_n hx hb dX5_allow_31 rfl (lv_at hl 0 rfl) ?_
      exact fin' _ _ hf 32 ls H locs dX5_allow_32 rfl hP hD hS
    · have hf := if_f c_9 hf
      refine lv_bipush (v := (-2 : Int32)) hx hb dX5_allow_12 (by decide) ?_
      exact fin' _ _ hf 14 ls H locs dX5_allow_14 rfl hP hD hS
abbrev wd_X5_weight (E : EN) (a_t : Nat) (a_t_table : Nat) (a_t_table_weights : Nat) (w_t_pad : Value) (x_t_signs : Int32) (w_t_images : Value) (w_t_pack : Value) (w_t_row : Value) (w_t_chances : Value) (w_t_writing : Value) (w_t_guess : Value) (w_t_table_text : Value) (w_t_table_sightFrom : Value) (w_t_table_sightOut : Value) (x_t_table_places : Int32) (x_t_table_beginnings : Int32) (x_t_table_courtCount : Int32) (x_t_table_allowed : Int32) (x_t_table_sights : Int32) (x_t_table_kept : Int32) (x_t_table_weights : Nat → Int32) : va_W := [(a_t, e_O 5 [w_t_pad, .int x_t_signs, .ref a_t_table, w_t_images, w_t_pack, w_t_row, w_t_chances, w_t_writing, w_t_guess]), (a_t_table, e_O 3 [w_t_table_text, .ref a_t_table_weights, w_t_table_sightFrom, w_t_table_sightOut, .int x_t_table_places, .int x_t_table_beginnings, .int x_t_table_courtCount, .int x_t_table_allowed, .int x_t_table_sights, .int x_t_table_kept]), (a_t_table_weights, e_I E 11 x_t_table_weights)]
def f_X5_weight (p1 : Int32) (p2 : Int32) (x_t_table_weights : Nat → Int32) : Option (Int32 × (Nat → Int32)) :=
  Option.bind (f_X5_isCount p1) (fun r1 =>
  if r1 = 0 then
    some ((-1 : Int32), x_t_table_weights)
  else
    if p2 < 0 then
      some ((-2 : Int32), x_t_table_weights)
    else
      if p2 ≤ (9 : Int32) then
        ck (inB p1 11) (
        Option.bind (f_X3_weightOfAll x_t_table_weights) (fun r36 =>
        if ((r36 - (x_t_table_weights (ix p1))) + p2) < (1 : Int32) then
          some ((-2 : Int32), x_t_table_weights)
        else
          if ((r36 - (x_t_table_weights (ix p1))) + p2) ≤ (12 : Int32) then
            some ((x_t_table_weights (ix p1)), (upd x_t_table_weights (ix p1) p2))
          else
            some ((-2 : Int32), x_t_table_weights)))
      else
        some ((-2 : Int32), x_t_table_weights))
set_option maxHeartbeats 4000000 in
set_option maxRecDepth 100000 in
theorem c_X5_weight (l : Launch) (E : EN) (a_t a_t_table a_t_table_weights : Nat) (w_t_pad : Value) (x_t_signs : Int32) (w_t_images : Value) (w_t_pack : Value) (w_t_row : Value) (w_t_chances : Value) (w_t_writing : Value) (w_t_guess : Value) (w_t_table_text : Value) (w_t_table_sightFrom : Value) (w_t_table_sightOut : Value) (x_t_table_places : Int32) (x_t_table_beginnings : Int32) (x_t_table_courtCount : Int32) (x_t_table_allowed : Int32) (x_t_table_sights : Int32) (x_t_table_kept : Int32) (x_t_table_weights : Nat → Int32) (p1 : Int32) (p2 : Int32) (res : Int32 × (Nat → Int32)) (hf : f_X5_weight p1 p2 x_t_table_weights = some res) : CtI l yX5_weight cX5_weight 5 .int 1 22 E [.ref a_t, .int p1, .int p2] (wd_X5_weight E a_t a_t_table a_t_table_weights w_t_pad x_t_signs w_t_images w_t_pack w_t_row w_t_chances w_t_writing w_t_guess w_t_table_text w_t_table_sightFrom w_t_table_sightOut x_t_table_places x_t_table_beginnings x_t_table_courtCount x_t_table_allowed x_t_table_sights x_t_table_kept x_t_table_weights) (wd_X5_weight E a_t a_t_table a_t_table_weights w_t_pad x_t_signs w_t_images w_t_pack w_t_row w_t_chances w_t_writing w_t_guess w_t_table_text w_t_table_sightFrom w_t_table_sightOut x_t_table_places x_t_table_beginnings x_t_table_courtCount x_t_table_allowed x_t_table_sights x_t_table_kept res.2) res.1 := by
  refine CtI.of RX5 (by decide) rfl (Nat.le_of_ble_eq_true rfl) ?_
  intro p e s m below meth c A Q ls X hA hP hD hl fin
  have hx := X.1
  have hb := X.2.1
  have hl : lv_has ls 5 [(0, .ref a_t), (1, .int p1), (2, .int p2)] := hl
  have fin' : ∀ (fr0 : Int32) (fr1 : (Nat → Int32)), some (fr0, fr1) = some res → ∀ (pc : Nat) (ls : Array Slot) (H : Heap) (locs : List Loc), decode cX5_weight pc = .ok (.ireturn, 1) → narrow .int (.int fr0) = .int fr0 → va_P E.1 vwCl (wd_X5_weight E a_t a_t_table a_t_table_weights w_t_pad x_t_signs w_t_images w_t_pack w_t_row w_t_chances w_t_writing w_t_guess w_t_table_text w_t_table_sightFrom w_t_table_sightOut x_t_table_places x_t_table_beginnings x_t_table_courtCount x_t_table_allowed x_t_table_sights x_t_table_kept fr1) H → va_D A (wd_X5_weight E a_t a_t_table a_t_table_weights w_t_pad x_t_signs w_t_images w_t_pack w_t_row w_t_chances w_t_writing w_t_guess w_t_table_text w_t_table_sightFrom w_t_table_sightOut x_t_table_places x_t_table_beginnings x_t_table_courtCount x_t_table_allowed x_t_table_sights x_t_table_kept fr1) → va_S A s.heap H locs → W p l e (rmm 1 22) s m ([.ref a_t, .int p1, .int p2] : List Value).toArray below meth c H locs 0 0 Q (F0 m pc ls [.int fr0]) := by
    intro fr0 fr1 he
    cases he
    exact fin
  have hS : va_S A s.heap s.heap [] := va_S.rf
  obtain ⟨H, hH9⟩ : ∃ z, z = s.heap := ⟨_, rfl⟩
  obtain ⟨locs, hL9⟩ : ∃ z : List Loc, z = [] := ⟨_, rfl⟩
  rw [← hL9]
  rw [← hL9] at hS
  have hP : va_P E.1 vwCl (wd_X5_weight E a_t a_t_table a_t_table_weights w_t_pad x_t_signs w_t_images w_t_pack w_t_row w_t_chances w_t_writing w_t_guess w_t_table_text w_t_table_sightFrom w_t_table_sightOut x_t_table_places x_t_table_beginnings x_t_table_courtCount x_t_table_allowed x_t_table_sights x_t_table_kept x_t_table_weights) H := by rw [hH9]; exact hP
  have hS : va_S A s.heap H locs := by rw [hH9]; exact hS
  suffices hgoal : W p l e (rmm 1 22) s m ([.ref a_t, .int p1, .int p2] : List Value).toArray below meth c H locs 0 0 Q (F0 m 0 ls []) by rw [hH9] at hgoal; exact hgoal
  rw [f_X5_weight] at hf
  refine lv_iload_n hx hb dX5_weight_0 rfl (lv_at hl 1 rfl) ?_
  obtain ⟨r1, hc1, hf⟩ := bd_some hf
  refine cS_I X hA hP hD hS hl.1 (c_X5_isCount l E p1 r1 hc1) 1 k_349 mw_X5_isCount hd_X5_isCount ⟨Nat.le_of_ble_eq_true rfl, Nat.le_of_ble_eq_true rfl⟩ [] [0, 1, 2] [0, 1, 2] rfl rfl (wr := [0, 1, 2].filterMap (fun i => (wd_X5_weight E a_t a_t_table a_t_table_weights w_t_pad x_t_signs w_t_images w_t_pack w_t_row w_t_chances w_t_writing w_t_guess w_t_table_text w_t_table_sightFrom w_t_table_sightOut x_t_table_places x_t_table_beginnings x_t_table_courtCount x_t_table_allowed x_t_table_sights x_t_table_kept x_t_table_weights)[i]?)) rfl rfl rfl rfl rfl (Nat.le_of_ble_eq_true rfl) rfl (ws' := (wd_X5_weight E a_t a_t_table a_t_table_weights w_t_pad x_t_signs w_t_images w_t_pack w_t_row w_t_chances w_t_writing w_t_guess w_t_table_text w_t_table_sightFrom w_t_table_sightOut x_t_table_places x_t_table_beginnings x_t_table_courtCount x_t_table_allowed x_t_table_sights x_t_table_kept x_t_table_weights)) rfl ⟨Nat.le_of_ble_eq_true rfl, Nat.le_of_ble_eq_true rfl⟩ dX5_weight_1 (fun H locs hP hD hS => ?_)
  refine lv_if_ne (tgt := 9) hx hb dX5_weight_4 (by decide) (fun c_4 => ?_) (fun c_4 => ?_)
  · have hf := if_f c_4 hf
    refine lv_iload_n hx hb dX5_weight_9 rfl (lv_at hl 2 rfl) ?_
    refine lv_if_lt (tgt := 19) hx hb dX5_weight_10 (by decide) (fun c_10 => ?_) (fun c_10 => ?_)
    · have hf := if_t c_10 hf
      refine lv_bipush (v := (-2 : Int32)) hx hb dX5_weight_19 (by decide) ?_
      exact fin' _ _ hf 21 ls H locs dX5_weight_21 rfl hP hD hS
    · have hf := if_f c_10 hf
      refine lv_iload_n hx hb dX5_weight_13 rfl (lv_at hl 2 rfl) ?_
      refine lv_bipush (v := (9 : Int32)) hx hb dX5_weight_14 (by decide) ?_
      refine lv_icmp_le (tgt := 22) hx hb dX5_weight_16 (by decide) (fun c_16 => ?_) (fun c_16 => ?_)
      · have hf := if_t c_16 hf
        refine lv_aload_n hx hb dX5_weight_22 rfl (lv_at hl 0 rfl) ?_
        refine gf_X5_20 X hP 0 rfl rfl dX5_weight_23 ?_
        refine gf_X5_83 X hP 1 rfl rfl dX5_weight_26 ?_
        refine lv_iload_n hx hb dX5_weight_29 rfl (lv_at hl 1 rfl) ?_
        obtain ⟨hi30, hf⟩ := ck_some hf
        refine r_iald X hP 2 rfl hi30 dX5_weight_30 ?_
        refine lv_istore_n (lv' := [(3, .int (x_t_table_weights (ix p1))), (0, .ref a_t), (1, .int p1), (2, .int p2)]) hx hb dX5_weight_31 rfl hl (by decide) rfl (fun ls hl => ?_)
        refine lv_aload_n hx hb dX5_weight_32 rfl (lv_at hl 1 rfl) ?_
        refine gf_X5_20 X hP 0 rfl rfl dX5_weight_33 ?_
        obtain ⟨r36, hc36, hf⟩ := bd_some hf
        refine cV_I X hA hP hD hS hl.1 (c_X3_weightOfAll l E a_t_table a_t_table_weights w_t_table_text w_t_table_sightFrom w_t_table_sightOut x_t_table_places x_t_table_beginnings x_t_table_courtCount x_t_table_allowed x_t_table_sights x_t_table_kept x_t_table_weights r36 hc36) 0 k_360 mw_X3_weightOfAll hd_X3_weightOfAll ⟨Nat.le_of_ble_eq_true rfl, Nat.le_of_ble_eq_true rfl⟩ [1, 2] [0] [0, 1, 2] rfl rfl (wr := [0].filterMap (fun i => (wd_X5_weight E a_t a_t_table a_t_table_weights w_t_pad x_t_signs w_t_images w_t_pack w_t_row w_t_chances w_t_writing w_t_guess w_t_table_text w_t_table_sightFrom w_t_table_sightOut x_t_table_places x_t_table_beginnings x_t_table_courtCount x_t_table_allowed x_t_table_sights x_t_table_kept x_t_table_weights)[i]?)) rfl rfl rfl 3 0 rfl rfl rfl rfl rfl (Nat.le_of_ble_eq_true rfl) rfl (ws' := (wd_X5_weight E a_t a_t_table a_t_table_weights w_t_pad x_t_signs w_t_images w_t_pack w_t_row w_t_chances w_t_writing w_t_guess w_t_table_text w_t_table_sightFrom w_t_table_sightOut x_t_table_places x_t_table_beginnings x_t_table_courtCount x_t_table_allowed x_t_table_sights x_t_table_kept x_t_table_weights)) rfl ⟨Nat.le_of_ble_eq_true rfl, Nat.le_of_ble_eq_true rfl⟩ dX5_weight_36 (fun H locs hP hD hS => ?_)
        refine lv_iload_n hx hb dX5_weight_39 rfl (lv_at hl 0 rfl) ?_
        refine lv_isub hx hb dX5_weight_40 ?_
        refine lv_iload_n hx hb dX5_weight_41 rfl (lv_at hl 3 rfl) ?_
        refine lv_iadd hx hb dX5_weight_42 ?_
        refine lv_istore (lv' := [(4, .int ((r36 - (x_t_table_weights (ix p1))) + p2)), (3, .int (x_t_table_weights (ix p1))), (0, .ref a_t), (1, .int p1), (2, .int p2)]) hx hb dX5_weight_43 hl (by decide) rfl (fun ls hl => ?_)
        refine lv_iload hx hb dX5_weight_45 (lv_at hl 0 rfl) ?_
        refine lv_iconst (v := (1 : Int32)) hx hb dX5_weight_47 (by decide) ?_
        refine lv_icmp_lt (tgt := 58) hx hb dX5_weight_48 (by decide) (fun c_48 => ?_) (fun c_48 => ?_)
        · have hf := if_t c_48 hf
          refine lv_bipush (v := (-2 : Int32)) hx hb dX5_weight_58 (by decide) ?_
          exact fin' _ _ hf 60 ls H locs dX5_weight_60 rfl hP hD hS
        · have hf := if_f c_48 hf
          refine lv_iload hx hb dX5_weight_51 (lv_at hl 0 rfl) ?_
          refine lv_bipush (v := (12 : Int32)) hx hb dX5_weight_53 (by decide) ?_
          refine lv_icmp_le (tgt := 61) hx hb dX5_weight_55 (by decide) (fun c_55 => ?_) (fun c_55 => ?_)
          · have hf := if_t c_55 hf
            refine lv_aload_n hx hb dX5_weight_61 rfl (lv_at hl 2 rfl) ?_
            refine gf_X5_20 X hP 0 rfl rfl dX5_weight_62 ?_
            refine gf_X5_83 X hP 1 rfl rfl dX5_weight_65 ?_
            refine lv_iload_n hx hb dX5_weight_68 rfl (lv_at hl 3 rfl) ?_
            refine lv_iload_n hx hb dX5_weight_69 rfl (lv_at hl 4 rfl) ?_
            refine r_iast X hP hD hS 2 rfl hi30 (ws' := (wd_X5_weight E a_t a_t_table a_t_table_weights w_t_pad x_t_signs w_t_images w_t_pack w_t_row w_t_chances w_t_writing w_t_guess w_t_table_text w_t_table_sightFrom w_t_table_sightOut x_t_table_places x_t_table_beginnings x_t_table_courtCount x_t_table_allowed x_t_table_sights x_t_table_kept (upd x_t_table_weights (ix p1) p2))) rfl dX5_weight_70 (fun H locs hP hD hS => ?_)
            refine lv_iload_n hx hb dX5_weight_71 rfl (lv_at hl 1 rfl) ?_
            exact fin' _ _ hf 72 ls H locs dX5_weight_72 rfl hP hD hS
          · have hf := if_f c_55 hf
            refine lv_bipush (v := (-2 : Int32)) hx hb dX5_weight_58 (by decide) ?_
            exact fin' _ _ hf 60 ls H locs dX5_weight_60 rfl hP hD hS
      · have hf := if_f c_16 hf
        refine lv_bipush (v := (-2 : Int32)) hx hb dX5_weight_19 (by decide) ?_
        exact fin' _ _ hf 21 ls H locs dX5_weight_21 rfl hP hD hS
  · have hf := if_t c_4 hf
    refine lv_iconst (v := (-1 : Int32)) hx hb dX5_weight_7 (by decide) ?_
    exact fin' _ _ hf 8 ls H locs dX5_weight_8 rfl hP hD hS
abbrev wd_X5_place (E : EN) (a_t : Nat) (a_t_table : Nat) (a_t_table_text : Nat) (w_t_pad : Value) (x_t_signs : Int32) (w_t_images : Value) (w_t_pack : Value) (w_t_row : Value) (w_t_chances : Value) (w_t_writing : Value) (w_t_guess : Value) (w_t_table_weights : Value) (w_t_table_sightFrom : Value) (w_t_table_sightOut : Value) (x_t_table_places : Int32) (x_t_table_beginnings : Int32) (x_t_table_courtCount : Int32) (x_t_table_allowed : Int32) (x_t_table_sights : Int32) (x_t_table_kept : Int32) (x_t_table_text : Nat → Int32) : va_W := [(a_t, e_O 5 [w_t_pad, .int x_t_signs, .ref a_t_table, w_t_images, w_t_pack, w_t_row, w_t_chances, w_t_writing, w_t_guess]), (a_t_table, e_O 3 [.ref a_t_table_text, w_t_table_weights, w_t_table_sightFrom, w_t_table_sightOut, .int x_t_table_places, .int x_t_table_beginnings, .int x_t_table_courtCount, .int x_t_table_allowed, .int x_t_table_sights, .int x_t_table_kept]), (a_t_table_text, e_C E 40 x_t_table_text)]
def f_X5_place (p1 : Int32) (p2 : Int32) (x_t_table_places : Int32) (x_t_table_courtCount : Int32) (x_t_table_text : Nat → Int32) : Option (Int32) :=
  Option.bind (f_X3_has p1 x_t_table_places) (fun r5 =>
  if r5 = 0 then
    some (-1 : Int32)
  else
    if p2 < 0 then
      some (-2 : Int32)
    else
      if p2 ≤ (1 : Int32) then
        ck (inB p1 40) (
        if p2 = 0 then
          some (x_t_table_text (ix p1))
        else
          Option.bind (f_X5_countOf (x_t_table_text (ix p1)) x_t_table_courtCount) (fun r49 =>
          if r49 = 0 then
            some (-6 : Int32)
          else
            some r49))
      else
        some (-2 : Int32))
set_option maxHeartbeats 4000000 in
set_option maxRecDepth 100000 in
theorem c_X5_place (l : Launch) (E : EN) (a_t a_t_table a_t_table_text : Nat) (w_t_pad : Value) (x_t_signs : Int32) (w_t_images : Value) (w_t_pack : Value) (w_t_row : Value) (w_t_chances : Value) (w_t_writing : Value) (w_t_guess : Value) (w_t_table_weights : Value) (w_t_table_sightFrom : Value) (w_t_table_sightOut : Value) (x_t_table_places : Int32) (x_t_table_beginnings : Int32) (x_t_table_courtCount : Int32) (x_t_table_allowed : Int32) (x_t_table_sights : Int32) (x_t_table_kept : Int32) (x_t_table_text : Nat → Int32) (p1 : Int32) (p2 : Int32) (res : Int32) (hf : f_X5_place p1 p2 x_t_table_places x_t_table_courtCount x_t_table_text = some res) : CtI l yX5_place cX5_place 5 .int 1 21 E [.ref a_t, .int p1, .int p2] (wd_X5_place E a_t a_t_table a_t_table_text w_t_pad x_t_signs w_t_images w_t_pack w_t_row w_t_chances w_t_writing w_t_guess w_t_table_weights w_t_table_sightFrom w_t_table_sightOut x_t_table_places x_t_table_beginnings x_t_table_courtCount x_t_table_allowed x_t_table_sights x_t_table_kept x_t_table_text) (wd_X5_place E a_t a_t_table a_t_table_text w_t_pad x_t_signs w_t_images w_t_pack w_t_row w_t_chances w_t_writing w_t_guess w_t_table_weights w_t_table_sightFrom w_t_table_sightOut x_t_table_places x_t_table_beginnings x_t_table_courtCount x_t_table_allowed x_t_table_sights x_t_table_kept x_t_table_text) res := by
  refine CtI.of RX5 (by decide) rfl (Nat.le_of_ble_eq_true rfl) ?_
  intro p e s m below meth c A Q ls X hA hP hD hl fin
  have hx := X.1
  have hb := X.2.1
  have hl : lv_has ls 5 [(0, .ref a_t), (1, .int p1), (2, .int p2)] := hl
  have fin' : ∀ (fr0 : Int32), some fr0 = some res → ∀ (pc : Nat) (ls : Array Slot) (H : Heap) (locs : List Loc), decode cX5_place pc = .ok (.ireturn, 1) → narrow .int (.int fr0) = .int fr0 → va_P E.1 vwCl (wd_X5_place E a_t a_t_table a_t_table_text w_t_pad x_t_signs w_t_images w_t_pack w_t_row w_t_chances w_t_writing w_t_guess w_t_table_weights w_t_table_sightFrom w_t_table_sightOut x_t_table_places x_t_table_beginnings x_t_table_courtCount x_t_table_allowed x_t_table_sights x_t_table_kept x_t_table_text) H → va_D A (wd_X5_place E a_t a_t_table a_t_table_text w_t_pad x_t_signs w_t_images w_t_pack w_t_row w_t_chances w_t_writing w_t_guess w_t_table_weights w_t_table_sightFrom w_t_table_sightOut x_t_table_places x_t_table_beginnings x_t_table_courtCount x_t_table_allowed x_t_table_sights x_t_table_kept x_t_table_text) → va_S A s.heap H locs → W p l e (rmm 1 21) s m ([.ref a_t, .int p1, .int p2] : List Value).toArray below meth c H locs 0 0 Q (F0 m pc ls [.int fr0]) := by
    intro fr0 he
    cases he
    exact fin
  have hS : va_S A s.heap s.heap [] := va_S.rf
  obtain ⟨H, hH9⟩ : ∃ z, z = s.heap := ⟨_, rfl⟩
  obtain ⟨locs, hL9⟩ : ∃ z : List Loc, z = [] := ⟨_, rfl⟩
  rw [← hL9]
  rw [← hL9] at hS
  have hP : va_P E.1 vwCl (wd_X5_place E a_t a_t_table a_t_table_text w_t_pad x_t_signs w_t_images w_t_pack w_t_row w_t_chances w_t_writing w_t_guess w_t_table_weights w_t_table_sightFrom w_t_table_sightOut x_t_table_places x_t_table_beginnings x_t_table_courtCount x_t_table_allowed x_t_table_sights x_t_table_kept x_t_table_text) H := by rw [hH9]; exact hP
  have hS : va_S A s.heap H locs := by rw [hH9]; exact hS
  suffices hgoal : W p l e (rmm 1 21) s m ([.ref a_t, .int p1, .int p2] : List Value).toArray below meth c H locs 0 0 Q (F0 m 0 ls []) by rw [hH9] at hgoal; exact hgoal
  rw [f_X5_place] at hf
  refine lv_aload_n hx hb dX5_place_0 rfl (lv_at hl 0 rfl) ?_
  refine gf_X5_20 X hP 0 rfl rfl dX5_place_1 ?_
  refine lv_iload_n hx hb dX5_place_4 rfl (lv_at hl 1 rfl) ?_
  obtain ⟨r5, hc5, hf⟩ := bd_some hf
  refine cV_I X hA hP hD hS hl.1 (c_X3_has l E a_t_table (.ref a_t_table_text) w_t_table_weights w_t_table_sightFrom w_t_table_sightOut x_t_table_places x_t_table_beginnings x_t_table_courtCount x_t_table_allowed x_t_table_sights x_t_table_kept p1 r5 hc5) 1 k_368 mw_X3_has hd_X3_has ⟨Nat.le_of_ble_eq_true rfl, Nat.le_of_ble_eq_true rfl⟩ [1] [0, 2] [0, 2, 1] rfl rfl (wr := [0, 2].filterMap (fun i => (wd_X5_place E a_t a_t_table a_t_table_text w_t_pad x_t_signs w_t_images w_t_pack w_t_row w_t_chances w_t_writing w_t_guess w_t_table_weights w_t_table_sightFrom w_t_table_sightOut x_t_table_places x_t_table_beginnings x_t_table_courtCount x_t_table_allowed x_t_table_sights x_t_table_kept x_t_table_text)[i]?)) rfl rfl rfl 3 0 rfl rfl rfl rfl rfl (Nat.le_of_ble_eq_true rfl) rfl (ws' := (wd_X5_place E a_t a_t_table a_t_table_text w_t_pad x_t_signs w_t_images w_t_pack w_t_row w_t_chances w_t_writing w_t_guess w_t_table_weights w_t_table_sightFrom w_t_table_sightOut x_t_table_places x_t_table_beginnings x_t_table_courtCount x_t_table_allowed x_t_table_sights x_t_table_kept x_t_table_text)) rfl ⟨Nat.le_of_ble_eq_true rfl, Nat.le_of_ble_eq_true rfl⟩ dX5_place_5 (fun H locs hP hD hS => ?_)
  refine lv_if_ne (tgt := 13) hx hb dX5_place_8 (by decide) (fun c_8 => ?_) (fun c_8 => ?_)
  · have hf := if_f c_8 hf
    refine lv_iload_n hx hb dX5_place_13 rfl (lv_at hl 2 rfl) ?_
    refine lv_if_lt (tgt := 22) hx hb dX5_place_14 (by decide) (fun c_14 => ?_) (fun c_14 => ?_)
    · have hf := if_t c_14 hf
      refine lv_bipush (v := (-2 : Int32)) hx hb dX5_place_22 (by decide) ?_
      exact fin' _ hf 24 ls H locs dX5_place_24 rfl hP hD hS
    · have hf := if_f c_14 hf
      refine lv_iload_n hx hb dX5_place_17 rfl (lv_at hl 2 rfl) ?_
      refine lv_iconst (v := (1 : Int32)) hx hb dX5_place_18 (by decide) ?_
      refine lv_icmp_le (tgt := 25) hx hb dX5_place_19 (by decide) (fun c_19 => ?_) (fun c_19 => ?_)
      · have hf := if_t c_19 hf
        refine lv_aload_n hx hb dX5_place_25 rfl (lv_at hl 0 rfl) ?_
        refine gf_X5_20 X hP 0 rfl rfl dX5_place_26 ?_
        refine gf_X5_93 X hP 1 rfl rfl dX5_place_29 ?_
        refine lv_iload_n hx hb dX5_place_32 rfl (lv_at hl 1 rfl) ?_
        obtain ⟨hi33, hf⟩ := ck_some hf
        refine r_cald X hP 2 rfl hi33 dX5_place_33 ?_
        refine lv_istore_n (lv' := [(3, .int (x_t_table_text (ix p1))), (0, .ref a_t), (1, .int p1), (2, .int p2)]) hx hb dX5_place_34 rfl hl (by decide) rfl (fun ls hl => ?_)
        refine lv_iload_n hx hb dX5_place_35 rfl (lv_at hl 3 rfl) ?_
        refine lv_if_ne (tgt := 41) hx hb dX5_place_36 (by decide) (fun c_36 => ?_) (fun c_36 => ?_)
        · have hf := if_f c_36 hf
          refine lv_iload_n hx hb dX5_place_41 rfl (lv_at hl 0 rfl) ?_
          refine lv_aload_n hx hb dX5_place_42 rfl (lv_at hl 1 rfl) ?_
          refine gf_X5_20 X hP 0 rfl rfl dX5_place_43 ?_
          refine gf_X5_77 X hP 1 rfl rfl dX5_place_46 ?_
          obtain ⟨r49, hc49, hf⟩ := bd_some hf
          refine cS_I X hA hP hD hS hl.1 (c_X5_countOf l E (x_t_table_text (ix p1)) x_t_table_courtCount r49 hc49) 2 k_324 mw_X5_countOf hd_X5_countOf ⟨Nat.le_of_ble_eq_true rfl, Nat.le_of_ble_eq_true rfl⟩ [] [0, 1, 2] [0, 1, 2] rfl rfl (wr := [0, 1, 2].filterMap (fun i => (wd_X5_place E a_t a_t_table a_t_table_text w_t_pad x_t_signs w_t_images w_t_pack w_t_row w_t_chances w_t_writing w_t_guess w_t_table_weights w_t_table_sightFrom w_t_table_sightOut x_t_table_places x_t_table_beginnings x_t_table_courtCount x_t_table_allowed x_t_table_sights x_t_table_kept x_t_table_text)[i]?)) rfl rfl rfl rfl rfl (Nat.le_of_ble_eq_true rfl) rfl (ws' := (wd_X5_place E a_t a_t_table a_t_table_text w_t_pad x_t_signs w_t_images w_t_pack w_t_row w_t_chances w_t_writing w_t_guess w_t_table_weights w_t_table_sightFrom w_t_table_sightOut x_t_table_places x_t_table_beginnings x_t_table_courtCount x_t_table_allowed x_t_table_sights x_t_table_kept x_t_table_text)) rfl ⟨Nat.le_of_ble_eq_true rfl, Nat.le_of_ble_eq_true rfl⟩ dX5_place_49 (fun H locs hP hD hS => ?_)
          refine lv_istore (lv' := [(4, .int r49), (3, .int (x_t_table_text (ix p1))), (0, .ref a_t), (1, .int p1), (2, .int p2)]) hx hb dX5_place_52 hl (by decide) rfl (fun ls hl => ?_)
          refine lv_iload hx hb dX5_place_54 (lv_at hl 0 rfl) ?_
          refine lv_if_ne (tgt := 64) hx hb dX5_place_56 (by decide) (fun c_56 => ?_) (fun c_56 => ?_)
          · have hf := if_f c_56 hf
            refine lv_iload hx hb dX5_place_64 (lv_at hl 0 rfl) ?_
            exact fin' _ hf 66 ls H locs dX5_place_66 rfl hP hD hS
          · have hf := if_t c_56 hf
            refine lv_bipush (v := (-6 : Int32)) hx hb dX5_place_59 (by decide) ?_
            refine lv_goto (tgt := 66) hx hb dX5_place_61 (by decide) ?_
            exact fin' _ hf 66 ls H locs dX5_place_66 rfl hP hD hS
        · have hf := if_t c_36 hf
          refine lv_iload_n hx hb dX5_place_39 rfl (lv_at hl 0 rfl) ?_
          exact fin' _ hf 40 ls H locs dX5_place_40 rfl hP hD hS
      · have hf := if_f c_19 hf
        refine lv_bipush (v := (-2 : Int32)) hx hb dX5_place_22 (by decide) ?_
        exact fin' _ hf 24 ls H locs dX5_place_24 rfl hP hD hS
  · have hf := if_t c_8 hf
    refine lv_iconst (v := (-1 : Int32)) hx hb dX5_place_11 (by decide) ?_
    exact fin' _ hf 12 ls H locs dX5_place_12 rfl hP hD hS
abbrev wd_X5_out (E : EN) (a_t : Nat) (a_t_table : Nat) (a_t_table_text : Nat) (a_t_row : Nat) (a_t_row_counts : Nat) (a_t_row_ends : Nat) (a_t_row_comers : Nat) (a_t_row_leaders : Nat) (a_t_row_chains : Nat) (w_t_pad : Value) (x_t_signs : Int32) (w_t_images : Value) (w_t_pack : Value) (w_t_chances : Value) (w_t_writing : Value) (w_t_guess : Value) (w_t_table_weights : Value) (w_t_table_sightFrom : Value) (w_t_table_sightOut : Value) (x_t_table_places : Int32) (x_t_table_beginnings : Int32) (x_t_table_courtCount : Int32) (x_t_table_allowed : Int32) (x_t_table_sights : Int32) (x_t_table_kept : Int32) (x_t_table_text : Nat → Int32) (x_t_row_places : Int32) (x_t_row_beginnings : Int32) (x_t_row_counts : Nat → Int32) (x_t_row_ends : Nat → Int32) (x_t_row_comers : Nat → Int32) (x_t_row_leaders : Nat → Int32) (x_t_row_chains : Nat → Int32) : va_W := [(a_t, e_O 5 [w_t_pad, .int x_t_signs, .ref a_t_table, w_t_images, w_t_pack, .ref a_t_row, w_t_chances, w_t_writing, w_t_guess]), (a_t_table, e_O 3 [.ref a_t_table_text, w_t_table_weights, w_t_table_sightFrom, w_t_table_sightOut, .int x_t_table_places, .int x_t_table_beginnings, .int x_t_table_courtCount, .int x_t_table_allowed, .int x_t_table_sights, .int x_t_table_kept]), (a_t_table_text, e_C E 40 x_t_table_text), (a_t_row, e_O 2 [.ref a_t_row_counts, .ref a_t_row_ends, .ref a_t_row_comers, .ref a_t_row_leaders, .ref a_t_row_chains, .int x_t_row_places, .int x_t_row_beginnings]), (a_t_row_counts, e_I E 40 x_t_row_counts), (a_t_row_ends, e_I E 40 x_t_row_ends), (a_t_row_comers, e_I E 40 x_t_row_comers), (a_t_row_leaders, e_I E 40 x_t_row_leaders), (a_t_row_chains, e_I E 40 x_t_row_chains)]
def f_X5_out (p1 : Int32) (x_t_table_places : Int32) (x_t_table_beginnings : Int32) (x_t_table_courtCount : Int32) (x_t_table_text : Nat → Int32) (x_t_row_places : Int32) (x_t_row_beginnings : Int32) (x_t_row_counts : Nat → Int32) (x_t_row_ends : Nat → Int32) (x_t_row_comers : Nat → Int32) (x_t_row_leaders : Nat → Int32) (x_t_row_chains : Nat → Int32) : Option (Int32 × Int32 × Int32 × (Nat → Int32) × (Nat → Int32) × (Nat → Int32) × (Nat → Int32) × (Nat → Int32)) :=
  Option.bind (f_X3_has p1 x_t_table_places) (fun r5 =>
  if r5 = 0 then
    some ((-1 : Int32), x_t_row_places, x_t_row_beginnings, x_t_row_counts, x_t_row_ends, x_t_row_comers, x_t_row_leaders, x_t_row_chains)
  else
    Option.bind (f_X3_isWhole x_t_table_places x_t_table_text) (fun r17 =>
    if r17 = 0 then
      some ((-3 : Int32), x_t_row_places, x_t_row_beginnings, x_t_row_counts, x_t_row_ends, x_t_row_comers, x_t_row_leaders, x_t_row_chains)
    else
      Option.bind (f_X2_follow x_t_table_courtCount x_t_table_text x_t_table_places x_t_table_beginnings x_t_row_counts x_t_row_ends x_t_row_comers x_t_row_leaders x_t_row_chains) (fun r48 =>
      ck (inB p1 40) (
      some ((r48.2.2.2.1 (ix p1)), r48.1, r48.2.1, r48.2.2.1, r48.2.2.2.1, r48.2.2.2.2.1, r48.2.2.2.2.2.1, r48.2.2.2.2.2.2)))))
set_option maxHeartbeats 4000000 in
set_option maxRecDepth 100000 in
theorem c_X5_out (l : Launch) (E : EN) (a_t a_t_table a_t_table_text a_t_row a_t_row_counts a_t_row_ends a_t_row_comers a_t_row_leaders a_t_row_chains : Nat) (w_t_pad : Value) (x_t_signs : Int32) (w_t_images : Value) (w_t_pack : Value) (w_t_chances : Value) (w_t_writing : Value) (w_t_guess : Value) (w_t_table_weights : Value) (w_t_table_sightFrom : Value) (w_t_table_sightOut : Value) (x_t_table_places : Int32) (x_t_table_beginnings : Int32) (x_t_table_courtCount : Int32) (x_t_table_allowed : Int32) (x_t_table_sights : Int32) (x_t_table_kept : Int32) (x_t_table_text : Nat → Int32) (x_t_row_places : Int32) (x_t_row_beginnings : Int32) (x_t_row_counts : Nat → Int32) (x_t_row_ends : Nat → Int32) (x_t_row_comers : Nat → Int32) (x_t_row_leaders : Nat → Int32) (x_t_row_chains : Nat → Int32) (p1 : Int32) (res : Int32 × Int32 × Int32 × (Nat → Int32) × (Nat → Int32) × (Nat → Int32) × (Nat → Int32) × (Nat → Int32)) (hf : f_X5_out p1 x_t_table_places x_t_table_beginnings x_t_table_courtCount x_t_table_text x_t_row_places x_t_row_beginnings x_t_row_counts x_t_row_ends x_t_row_comers x_t_row_leaders x_t_row_chains = some res) : CtI l yX5_out cX5_out 2 .int 3 70 E [.ref a_t, .int p1] (wd_X5_out E a_t a_t_table a_t_table_text a_t_row a_t_row_counts a_t_row_ends a_t_row_comers a_t_row_leaders a_t_row_chains w_t_pad x_t_signs w_t_images w_t_pack w_t_chances w_t_writing w_t_guess w_t_table_weights w_t_table_sightFrom w_t_table_sightOut x_t_table_places x_t_table_beginnings x_t_table_courtCount x_t_table_allowed x_t_table_sights x_t_table_kept x_t_table_text x_t_row_places x_t_row_beginnings x_t_row_counts x_t_row_ends x_t_row_comers x_t_row_leaders x_t_row_chains) (wd_X5_out E a_t a_t_table a_t_table_text a_t_row a_t_row_counts a_t_row_ends a_t_row_comers a_t_row_leaders a_t_row_chains w_t_pad x_t_signs w_t_images w_t_pack w_t_chances w_t_writing w_t_guess w_t_table_weights w_t_table_sightFrom w_t_table_sightOut x_t_table_places x_t_table_beginnings x_t_table_courtCount x_t_table_allowed x_t_table_sights x_t_table_kept x_t_table_text res.2.1 res.2.2.1 res.2.2.2.1 res.2.2.2.2.1 res.2.2.2.2.2.1 res.2.2.2.2.2.2.1 res.2.2.2.2.2.2.2) res.1 := by
  refine CtI.of RX5 (by decide) rfl (Nat.le_of_ble_eq_true rfl) ?_
  intro p e s m below meth c A Q ls X hA hP hD hl fin
  have hx := X.1
  have hb := X.2.1
  have hl : lv_has ls 2 [(0, .ref a_t), (1, .int p1)] := hl
  have fin' : ∀ (fr0 : Int32) (fr1 : Int32) (fr2 : Int32) (fr3 : (Nat → Int32)) (fr4 : (Nat → Int32)) (fr5 : (Nat → Int32)) (fr6 : (Nat → Int32)) (fr7 : (Nat → Int32)), some (fr0, fr1, fr2, fr3, fr4, fr5, fr6, fr7) = some res → ∀ (pc : Nat) (ls : Array Slot) (H : Heap) (locs : List Loc), decode cX5_out pc = .ok (.ireturn, 1) → narrow .int (.int fr0) = .int fr0 → va_P E.1 vwCl (wd_X5_out E a_t a_t_table a_t_table_text a_t_row a_t_row_counts a_t_row_ends a_t_row_comers a_t_row_leaders a_t_row_chains w_t_pad x_t_signs w_t_images w_t_pack w_t_chances w_t_writing w_t_guess w_t_table_weights w_t_table_sightFrom w_t_table_sightOut x_t_table_places x_t_table_beginnings x_t_table_courtCount x_t_table_allowed x_t_table_sights x_t_table_kept x_t_table_text fr1 fr2 fr3 fr4 fr5 fr6 fr7) H → va_D A (wd_X5_out E a_t a_t_table a_t_table_text a_t_row a_t_row_counts a_t_row_ends a_t_row_comers a_t_row_leaders a_t_row_chains w_t_pad x_t_signs w_t_images w_t_pack w_t_chances w_t_writing w_t_guess w_t_table_weights w_t_table_sightFrom w_t_table_sightOut x_t_table_places x_t_table_beginnings x_t_table_courtCount x_t_table_allowed x_t_table_sights x_t_table_kept x_t_table_text fr1 fr2 fr3 fr4 fr5 fr6 fr7) → va_S A s.heap H locs → W p l e (rmm 3 70) s m ([.ref a_t, .int p1] : List Value).toArray below meth c H locs 0 0 Q (F0 m pc ls [.int fr0]) := by
    intro fr0 fr1 fr2 fr3 fr4 fr5 fr6 fr7 he
    cases he
    exact fin
  have hS : va_S A s.heap s.heap [] := va_S.rf
  obtain ⟨H, hH9⟩ : ∃ z, z = s.heap := ⟨_, rfl⟩
  obtain ⟨locs, hL9⟩ : ∃ z : List Loc, z = [] := ⟨_, rfl⟩
  rw [← hL9]
  rw [← hL9] at hS
  have hP : va_P E.1 vwCl (wd_X5_out E a_t a_t_table a_t_table_text a_t_row a_t_row_counts a_t_row_ends a_t_row_comers a_t_row_leaders a_t_row_chains w_t_pad x_t_signs w_t_images w_t_pack w_t_chances w_t_writing w_t_guess w_t_table_weights w_t_table_sightFrom w_t_table_sightOut x_t_table_places x_t_table_beginnings x_t_table_courtCount x_t_table_allowed x_t_table_sights x_t_table_kept x_t_table_text x_t_row_places x_t_row_beginnings x_t_row_counts x_t_row_ends x_t_row_comers x_t_row_leaders x_t_row_chains) H := by rw [hH9]; exact hP
  have hS : va_S A s.heap H locs := by rw [hH9]; exact hS
  suffices hgoal : W p l e (rmm 3 70) s m ([.ref a_t, .int p1] : List Value).toArray below meth c H locs 0 0 Q (F0 m 0 ls []) by rw [hH9] at hgoal; exact hgoal
  rw [f_X5_out] at hf
  refine lv_aload_n hx hb dX5_out_0 rfl (lv_at hl 0 rfl) ?_
  refine gf_X5_20 X hP 0 rfl rfl dX5_out_1 ?_
  refine lv_iload_n hx hb dX5_out_4 rfl (lv_at hl 1 rfl) ?_
  obtain ⟨r5, hc5, hf⟩ := bd_some hf
  refine cV_I X hA hP hD hS hl.1 (c_X3_has l E a_t_table (.ref a_t_table_text) w_t_table_weights w_t_table_sightFrom w_t_table_sightOut x_t_table_places x_t_table_beginnings x_t_table_courtCount x_t_table_allowed x_t_table_sights x_t_table_kept p1 r5 hc5) 1 k_368 mw_X3_has hd_X3_has ⟨Nat.le_of_ble_eq_true rfl, Nat.le_of_ble_eq_true rfl⟩ [1] [0, 2, 3, 4, 5, 6, 7, 8] [0, 8, 1, 2, 3, 4, 5, 6, 7] rfl rfl (wr := [0, 2, 3, 4, 5, 6, 7, 8].filterMap (fun i => (wd_X5_out E a_t a_t_table a_t_table_text a_t_row a_t_row_counts a_t_row_ends a_t_row_comers a_t_row_leaders a_t_row_chains w_t_pad x_t_signs w_t_images w_t_pack w_t_chances w_t_writing w_t_guess w_t_table_weights w_t_table_sightFrom w_t_table_sightOut x_t_table_places x_t_table_beginnings x_t_table_courtCount x_t_table_allowed x_t_table_sights x_t_table_kept x_t_table_text x_t_row_places x_t_row_beginnings x_t_row_counts x_t_row_ends x_t_row_comers x_t_row_leaders x_t_row_chains)[i]?)) rfl rfl rfl 3 0 rfl rfl rfl rfl rfl (Nat.le_of_ble_eq_true rfl) rfl (ws' := (wd_X5_out E a_t a_t_table a_t_table_text a_t_row a_t_row_counts a_t_row_ends a_t_row_comers a_t_row_leaders a_t_row_chains w_t_pad x_t_signs w_t_images w_t_pack w_t_chances w_t_writing w_t_guess w_t_table_weights w_t_table_sightFrom w_t_table_sightOut x_t_table_places x_t_table_beginnings x_t_table_courtCount x_t_table_allowed x_t_table_sights x_t_table_kept x_t_table_text x_t_row_places x_t_row_beginnings x_t_row_counts x_t_row_ends x_t_row_comers x_t_row_leaders x_t_row_chains)) rfl ⟨Nat.le_of_ble_eq_true rfl, Nat.le_of_ble_eq_true rfl⟩ dX5_out_5 (fun H locs hP hD hS => ?_)
  refine lv_if_ne (tgt := 13) hx hb dX5_out_8 (by decide) (fun c_8 => ?_) (fun c_8 => ?_)
  · have hf := if_f c_8 hf
    refine lv_aload_n hx hb dX5_out_13 rfl (lv_at hl 0 rfl) ?_
    refine gf_X5_20 X hP 0 rfl rfl dX5_out_14 ?_
    obtain ⟨r17, hc17, hf⟩ := bd_some hf
    refine cV_I X hA hP hD hS hl.1 (c_X3_isWhole l E a_t_table a_t_table_text w_t_table_weights w_t_table_sightFrom w_t_table_sightOut x_t_table_places x_t_table_beginnings x_t_table_courtCount x_t_table_allowed x_t_table_sights x_t_table_kept x_t_table_text r17 hc17) 0 k_376 mw_X3_isWhole hd_X3_isWhole ⟨Nat.le_of_ble_eq_true rfl, Nat.le_of_ble_eq_true rfl⟩ [1, 2] [0, 3, 4, 5, 6, 7, 8] [0, 7, 8, 1, 2, 3, 4, 5, 6] rfl rfl (wr := [0, 3, 4, 5, 6, 7, 8].filterMap (fun i => (wd_X5_out E a_t a_t_table a_t_table_text a_t_row a_t_row_counts a_t_row_ends a_t_row_comers a_t_row_leaders a_t_row_chains w_t_pad x_t_signs w_t_images w_t_pack w_t_chances w_t_writing w_t_guess w_t_table_weights w_t_table_sightFrom w_t_table_sightOut x_t_table_places x_t_table_beginnings x_t_table_courtCount x_t_table_allowed x_t_table_sights x_t_table_kept x_t_table_text x_t_row_places x_t_row_beginnings x_t_row_counts x_t_row_ends x_t_row_comers x_t_row_leaders x_t_row_chains)[i]?)) rfl rfl rfl 3 0 rfl rfl rfl rfl rfl (Nat.le_of_ble_eq_true rfl) rfl (ws' := (wd_X5_out E a_t a_t_table a_t_table_text a_t_row a_t_row_counts a_t_row_ends a_t_row_comers a_t_row_leaders a_t_row_chains w_t_pad x_t_signs w_t_images w_t_pack w_t_chances w_t_writing w_t_guess w_t_table_weights w_t_table_sightFrom w_t_table_sightOut x_t_table_places x_t_table_beginnings x_t_table_courtCount x_t_table_allowed x_t_table_sights x_t_table_kept x_t_table_text x_t_row_places x_t_row_beginnings x_t_row_counts x_t_row_ends x_t_row_comers x_t_row_leaders x_t_row_chains)) rfl ⟨Nat.le_of_ble_eq_true rfl, Nat.le_of_ble_eq_true rfl⟩ dX5_out_17 (fun H locs hP hD hS => ?_)
    refine lv_if_ne (tgt := 26) hx hb dX5_out_20 (by decide) (fun c_20 => ?_) (fun c_20 => ?_)
    · have hf := if_f c_20 hf
      refine lv_aload_n hx hb dX5_out_26 rfl (lv_at hl 0 rfl) ?_
      refine gf_X5_34 X hP 0 rfl rfl dX5_out_27 ?_
      refine lv_aload_n hx hb dX5_out_30 rfl (lv_at hl 0 rfl) ?_
      refine gf_X5_20 X hP 0 rfl rfl dX5_out_31 ?_
      refine gf_X5_93 X hP 1 rfl rfl dX5_out_34 ?_
      refine lv_aload_n hx hb dX5_out_37 rfl (lv_at hl 0 rfl) ?_
      refine gf_X5_20 X hP 0 rfl rfl dX5_out_38 ?_
      refine lv_aload_n hx hb dX5_out_41 rfl (lv_at hl 0 rfl) ?_
      refine gf_X5_20 X hP 0 rfl rfl dX5_out_42 ?_
      refine gf_X5_77 X hP 1 rfl rfl dX5_out_45 ?_
      obtain ⟨r48, hc48, hf⟩ := bd_some hf
      refine cV_V X hA hP hD hS hl.1 (c_X2_follow l E a_t_row a_t_table_text a_t_table a_t_row_counts a_t_row_ends a_t_row_comers a_t_row_leaders a_t_row_chains x_t_row_places x_t_row_beginnings x_t_table_text (.ref a_t_table_text) w_t_table_weights w_t_table_sightFrom w_t_table_sightOut x_t_table_places x_t_table_beginnings x_t_table_courtCount x_t_table_allowed x_t_table_sights x_t_table_kept x_t_row_counts x_t_row_ends x_t_row_comers x_t_row_leaders x_t_row_chains x_t_table_courtCount r48 hc48) 3 k_384 mw_X2_follow hd_X2_follow ⟨Nat.le_of_ble_eq_true rfl, Nat.le_of_ble_eq_true rfl⟩ [3, 2, 1, 4, 5, 6, 7, 8] [0] [0, 3, 2, 1, 4, 5, 6, 7, 8] rfl rfl (wr := [0].filterMap (fun i => (wd_X5_out E a_t a_t_table a_t_table_text a_t_row a_t_row_counts a_t_row_ends a_t_row_comers a_t_row_leaders a_t_row_chains w_t_pad x_t_signs w_t_images w_t_pack w_t_chances w_t_writing w_t_guess w_t_table_weights w_t_table_sightFrom w_t_table_sightOut x_t_table_places x_t_table_beginnings x_t_table_courtCount x_t_table_allowed x_t_table_sights x_t_table_kept x_t_table_text x_t_row_places x_t_row_beginnings x_t_row_counts x_t_row_ends x_t_row_comers x_t_row_leaders x_t_row_chains)[i]?)) rfl rfl rfl 2 0 rfl rfl rfl rfl rfl (Nat.le_of_ble_eq_true rfl) rfl (ws' := (wd_X5_out E a_t a_t_table a_t_table_text a_t_row a_t_row_counts a_t_row_ends a_t_row_comers a_t_row_leaders a_t_row_chains w_t_pad x_t_signs w_t_images w_t_pack w_t_chances w_t_writing w_t_guess w_t_table_weights w_t_table_sightFrom w_t_table_sightOut x_t_table_places x_t_table_beginnings x_t_table_courtCount x_t_table_allowed x_t_table_sights x_t_table_kept x_t_table_text r48.1 r48.2.1 r48.2.2.1 r48.2.2.2.1 r48.2.2.2.2.1 r48.2.2.2.2.2.1 r48.2.2.2.2.2.2)) rfl ⟨Nat.le_of_ble_eq_true rfl, Nat.le_of_ble_eq_true rfl⟩ dX5_out_48 (fun H locs hP hD hS => ?_)
      refine lv_aload_n hx hb dX5_out_51 rfl (lv_at hl 0 rfl) ?_
      refine gf_X5_34 X hP 0 rfl rfl dX5_out_52 ?_
      refine gf_X5_108 X hP 3 rfl rfl dX5_out_55 ?_
      refine lv_iload_n hx hb dX5_out_58 rfl (lv_at hl 1 rfl) ?_
      obtain ⟨hi59, hf⟩ := ck_some hf
      refine r_iald X hP 5 rfl hi59 dX5_out_59 ?_
      exact fin' _ _ _ _ _ _ _ _ hf 60 ls H locs dX5_out_60 rfl hP hD hS
    · have hf := if_t c_20 hf
      refine lv_bipush (v := (-3 : Int32)) hx hb dX5_out_23 (by decide) ?_
      exact fin' _ _ _ _ _ _ _ _ hf 25 ls H locs dX5_out_25 rfl hP hD hS
  · have hf := if_t c_8 hf
    refine lv_iconst (v := (-1 : Int32)) hx hb dX5_out_11 (by decide) ?_
    exact fin' _ _ _ _ _ _ _ _ hf 12 ls H locs dX5_out_12 rfl hP hD hS
abbrev wd_X5_streams (E : EN) (a_t : Nat) (a_t_table : Nat) (a_t_table_text : Nat) (a_t_row : Nat) (a_t_row_counts : Nat) (a_t_row_ends : Nat) (a_t_row_comers : Nat) (a_t_row_leaders : Nat) (a_t_row_chains : Nat) (w_t_pad : Value) (x_t_signs : Int32) (w_t_images : Value) (w_t_pack : Value) (w_t_chances : Value) (w_t_writing : Value) (w_t_guess : Value) (w_t_table_weights : Value) (w_t_table_sightFrom : Value) (w_t_table_sightOut : Value) (x_t_table_places : Int32) (x_t_table_beginnings : Int32) (x_t_table_courtCount : Int32) (x_t_table_allowed : Int32) (x_t_table_sights : Int32) (x_t_table_kept : Int32) (x_t_table_text : Nat → Int32) (x_t_row_places : Int32) (x_t_row_beginnings : Int32) (x_t_row_counts : Nat → Int32) (x_t_row_ends : Nat → Int32) (x_t_row_comers : Nat → Int32) (x_t_row_leaders : Nat → Int32) (x_t_row_chains : Nat → Int32) : va_W := [(a_t, e_O 5 [w_t_pad, .int x_t_signs, .ref a_t_table, w_t_images, w_t_pack, .ref a_t_row, w_t_chances, w_t_writing, w_t_guess]), (a_t_table, e_O 3 [.ref a_t_table_text, w_t_table_weights, w_t_table_sightFrom, w_t_table_sightOut, .int x_t_table_places, .int x_t_table_beginnings, .int x_t_table_courtCount, .int x_t_table_allowed, .int x_t_table_sights, .int x_t_table_kept]), (a_t_table_text, e_C E 40 x_t_table_text), (a_t_row, e_O 2 [.ref a_t_row_counts, .ref a_t_row_ends, .ref a_t_row_comers, .ref a_t_row_leaders, .ref a_t_row_chains, .int x_t_row_places, .int x_t_row_beginnings]), (a_t_row_counts, e_I E 40 x_t_row_counts), (a_t_row_ends, e_I E 40 x_t_row_ends), (a_t_row_comers, e_I E 40 x_t_row_comers), (a_t_row_leaders, e_I E 40 x_t_row_leaders), (a_t_row_chains, e_I E 40 x_t_row_chains)]
def f_X5_streams (x_t_table_places : Int32) (x_t_table_beginnings : Int32) (x_t_table_courtCount : Int32) (x_t_table_text : Nat → Int32) (x_t_row_places : Int32) (x_t_row_beginnings : Int32) (x_t_row_counts : Nat → Int32) (x_t_row_ends : Nat → Int32) (x_t_row_comers : Nat → Int32) (x_t_row_leaders : Nat → Int32) (x_t_row_chains : Nat → Int32) : Option (Int32 × Int32 × Int32 × (Nat → Int32) × (Nat → Int32) × (Nat → Int32) × (Nat → Int32) × (Nat → Int32)) :=
  Option.bind (f_X3_isWhole x_t_table_places x_t_table_text) (fun r4 =>
  if r4 = 0 then
    some ((-3 : Int32), x_t_row_places, x_t_row_beginnings, x_t_row_counts, x_t_row_ends, x_t_row_comers, x_t_row_leaders, x_t_row_chains)
  else
    Option.bind (f_X2_follow x_t_table_courtCount x_t_table_text x_t_table_places x_t_table_beginnings x_t_row_counts x_t_row_ends x_t_row_comers x_t_row_leaders x_t_row_chains) (fun r35 =>
    Option.bind (f_X2_manyEnds r35.2.1 r35.2.2.2.1) (fun r42 =>
    some (r42, r35.1, r35.2.1, r35.2.2.1, r35.2.2.2.1, r35.2.2.2.2.1, r35.2.2.2.2.2.1, r35.2.2.2.2.2.2))))
set_option maxHeartbeats 4000000 in
set_option maxRecDepth 100000 in
theorem c_X5_streams (l : Launch) (E : EN) (a_t a_t_table a_t_table_text a_t_row a_t_row_counts a_t_row_ends a_t_row_comers a_t_row_leaders a_t_row_chains : Nat) (w_t_pad : Value) (x_t_signs : Int32) (w_t_images : Value) (w_t_pack : Value) (w_t_chances : Value) (w_t_writing : Value) (w_t_guess : Value) (w_t_table_weights : Value) (w_t_table_sightFrom : Value) (w_t_table_sightOut : Value) (x_t_table_places : Int32) (x_t_table_beginnings : Int32) (x_t_table_courtCount : Int32) (x_t_table_allowed : Int32) (x_t_table_sights : Int32) (x_t_table_kept : Int32) (x_t_table_text : Nat → Int32) (x_t_row_places : Int32) (x_t_row_beginnings : Int32) (x_t_row_counts : Nat → Int32) (x_t_row_ends : Nat → Int32) (x_t_row_comers : Nat → Int32) (x_t_row_leaders : Nat → Int32) (x_t_row_chains : Nat → Int32)  (res : Int32 × Int32 × Int32 × (Nat → Int32) × (Nat → Int32) × (Nat → Int32) × (Nat → Int32) × (Nat → Int32)) (hf : f_X5_streams x_t_table_places x_t_table_beginnings x_t_table_courtCount x_t_table_text x_t_row_places x_t_row_beginnings x_t_row_counts x_t_row_ends x_t_row_comers x_t_row_leaders x_t_row_chains = some res) : CtI l yX5_streams cX5_streams 1 .int 3 70 E [.ref a_t] (wd_X5_streams E a_t a_t_table a_t_table_text a_t_row a_t_row_counts a_t_row_ends a_t_row_comers a_t_row_leaders a_t_row_chains w_t_pad x_t_signs w_t_images w_t_pack w_t_chances w_t_writing w_t_guess w_t_table_weights w_t_table_sightFrom w_t_table_sightOut x_t_table_places x_t_table_beginnings x_t_table_courtCount x_t_table_allowed x_t_table_sights x_t_table_kept x_t_table_text x_t_row_places x_t_row_beginnings x_t_row_counts x_t_row_ends x_t_row_comers x_t_row_leaders x_t_row_chains) (wd_X5_streams E a_t a_t_table a_t_table_text a_t_row a_t_row_counts a_t_row_ends a_t_row_comers a_t_row_leaders a_t_row_chains w_t_pad x_t_signs w_t_images w_t_pack w_t_chances w_t_writing w_t_guess w_t_table_weights w_t_table_sightFrom w_t_table_sightOut x_t_table_places x_t_table_beginnings x_t_table_courtCount x_t_table_allowed x_t_table_sights x_t_table_kept x_t_table_text res.2.1 res.2.2.1 res.2.2.2.1 res.2.2.2.2.1 res.2.2.2.2.2.1 res.2.2.2.2.2.2.1 res.2.2.2.2.2.2.2) res.1 := by
  refine CtI.of RX5 (by decide) rfl (Nat.le_of_ble_eq_true rfl) ?_
  intro p e s m below meth c A Q ls X hA hP hD hl fin
  have hx := X.1
  have hb := X.2.1
  have hl : lv_has ls 1 [(0, .ref a_t)] := hl
  have fin' : ∀ (fr0 : Int32) (fr1 : Int32) (fr2 : Int32) (fr3 : (Nat → Int32)) (fr4 : (Nat → Int32)) (fr5 : (Nat → Int32)) (fr6 : (Nat → Int32)) (fr7 : (Nat → Int32)), some (fr0, fr1, fr2, fr3, fr4, fr5, fr6, fr7) = some res → ∀ (pc : Nat) (ls : Array Slot) (H : Heap) (locs : List Loc), decode cX5_streams pc = .ok (.ireturn, 1) → narrow .int (.int fr0) = .int fr0 → va_P E.1 vwCl (wd_X5_streams E a_t a_t_table a_t_table_text a_t_row a_t_row_counts a_t_row_ends a_t_row_comers a_t_row_leaders a_t_row_chains w_t_pad x_t_signs w_t_images w_t_pack w_t_chances w_t_writing w_t_guess w_t_table_weights w_t_table_sightFrom w_t_table_sightOut x_t_table_places x_t_table_beginnings x_t_table_courtCount x_t_table_allowed x_t_table_sights x_t_table_kept x_t_table_text fr1 fr2 fr3 fr4 fr5 fr6 fr7) H → va_D A (wd_X5_streams E a_t a_t_table a_t_table_text a_t_row a_t_row_counts a_t_row_ends a_t_row_comers a_t_row_leaders a_t_row_chains w_t_pad x_t_signs w_t_images w_t_pack w_t_chances w_t_writing w_t_guess w_t_table_weights w_t_table_sightFrom w_t_table_sightOut x_t_table_places x_t_table_beginnings x_t_table_courtCount x_t_table_allowed x_t_table_sights x_t_table_kept x_t_table_text fr1 fr2 fr3 fr4 fr5 fr6 fr7) → va_S A s.heap H locs → W p l e (rmm 3 70) s m ([.ref a_t] : List Value).toArray below meth c H locs 0 0 Q (F0 m pc ls [.int fr0]) := by
    intro fr0 fr1 fr2 fr3 fr4 fr5 fr6 fr7 he
    cases he
    exact fin
  have hS : va_S A s.heap s.heap [] := va_S.rf
  obtain ⟨H, hH9⟩ : ∃ z, z = s.heap := ⟨_, rfl⟩
  obtain ⟨locs, hL9⟩ : ∃ z : List Loc, z = [] := ⟨_, rfl⟩
  rw [← hL9]
  rw [← hL9] at hS
  have hP : va_P E.1 vwCl (wd_X5_streams E a_t a_t_table a_t_table_text a_t_row a_t_row_counts a_t_row_ends a_t_row_comers a_t_row_leaders a_t_row_chains w_t_pad x_t_signs w_t_images w_t_pack w_t_chances w_t_writing w_t_guess w_t_table_weights w_t_table_sightFrom w_t_table_sightOut x_t_table_places x_t_table_beginnings x_t_table_courtCount x_t_table_allowed x_t_table_sights x_t_table_kept x_t_table_text x_t_row_places x_t_row_beginnings x_t_row_counts x_t_row_ends x_t_row_comers x_t_row_leaders x_t_row_chains) H := by rw [hH9]; exact hP
  have hS : va_S A s.heap H locs := by rw [hH9]; exact hS
  suffices hgoal : W p l e (rmm 3 70) s m ([.ref a_t] : List Value).toArray below meth c H locs 0 0 Q (F0 m 0 ls []) by rw [hH9] at hgoal; exact hgoal
  rw [f_X5_streams] at hf
  refine lv_aload_n hx hb dX5_streams_0 rfl (lv_at hl 0 rfl) ?_
  refine gf_X5_20 X hP 0 rfl rfl dX5_streams_1 ?_
  obtain ⟨r4, hc4, hf⟩ := bd_some hf
  refine cV_I X hA hP hD hS hl.1 (c_X3_isWhole l E a_t_table a_t_table_text w_t_table_weights w_t_table_sightFrom w_t_table_sightOut x_t_table_places x_t_table_beginnings x_t_table_courtCount x_t_table_allowed x_t_table_sights x_t_table_kept x_t_table_text r4 hc4) 0 k_376 mw_X3_isWhole hd_X3_isWhole ⟨Nat.le_of_ble_eq_true rfl, Nat.le_of_ble_eq_true rfl⟩ [1, 2] [0, 3, 4, 5, 6, 7, 8] [0, 7, 8, 1, 2, 3, 4, 5, 6] rfl rfl (wr := [0, 3, 4, 5, 6, 7, 8].filterMap (fun i => (wd_X5_streams E a_t a_t_table a_t_table_text a_t_row a_t_row_counts a_t_row_ends a_t_row_comers a_t_row_leaders a_t_row_chains w_t_pad x_t_signs w_t_images w_t_pack w_t_chances w_t_writing w_t_guess w_t_table_weights w_t_table_sightFrom w_t_table_sightOut x_t_table_places x_t_table_beginnings x_t_table_courtCount x_t_table_allowed x_t_table_sights x_t_table_kept x_t_table_text x_t_row_places x_t_row_beginnings x_t_row_counts x_t_row_ends x_t_row_comers x_t_row_leaders x_t_row_chains)[i]?)) rfl rfl rfl 3 0 rfl rfl rfl rfl rfl (Nat.le_of_ble_eq_true rfl) rfl (ws' := (wd_X5_streams E a_t a_t_table a_t_table_text a_t_row a_t_row_counts a_t_row_ends a_t_row_comers a_t_row_leaders a_t_row_chains w_t_pad x_t_signs w_t_images w_t_pack w_t_chances w_t_writing w_t_guess w_t_table_weights w_t_table_sightFrom w_t_table_sightOut x_t_table_places x_t_table_beginnings x_t_table_courtCount x_t_table_allowed x_t_table_sights x_t_table_kept x_t_table_text x_t_row_places x_t_row_beginnings x_t_row_counts x_t_row_ends x_t_row_comers x_t_row_leaders x_t_row_chains)) rfl ⟨Nat.le_of_ble_eq_true rfl, Nat.le_of_ble_eq_true rfl⟩ dX5_streams_4 (fun H locs hP hD hS => ?_)
  refine lv_if_ne (tgt := 13) hx hb dX5_streams_7 (by decide) (fun c_7 => ?_) (fun c_7 => ?_)
  · have hf := if_f c_7 hf
    refine lv_aload_n hx hb dX5_streams_13 rfl (lv_at hl 0 rfl) ?_
    refine gf_X5_34 X hP 0 rfl rfl dX5_streams_14 ?_
    refine lv_aload_n hx hb dX5_streams_17 rfl (lv_at hl 0 rfl) ?_
    refine gf_X5_20 X hP 0 rfl rfl dX5_streams_18 ?_
    refine gf_X5_93 X hP 1 rfl rfl dX5_streams_21 ?_
    refine lv_aload_n hx hb dX5_streams_24 rfl (lv_at hl 0 rfl) ?_
    refine gf_X5_20 X hP 0 rfl rfl dX5_streams_25 ?_
    refine lv_aload_n hx hb dX5_streams_28 rfl (lv_at hl 0 rfl) ?_
    refine gf_X5_20 X hP 0 rfl rfl dX5_streams_29 ?_
    refine gf_X5_77 X hP 1 rfl rfl dX5_streams_32 ?_
    obtain ⟨r35, hc35, hf⟩ := bd_some hf
    refine cV_V X hA hP hD hS hl.1 (c_X2_follow l E a_t_row a_t_table_text a_t_table a_t_row_counts a_t_row_ends a_t_row_comers a_t_row_leaders a_t_row_chains x_t_row_places x_t_row_beginnings x_t_table_text (.ref a_t_table_text) w_t_table_weights w_t_table_sightFrom w_t_table_sightOut x_t_table_places x_t_table_beginnings x_t_table_courtCount x_t_table_allowed x_t_table_sights x_t_table_kept x_t_row_counts x_t_row_ends x_t_row_comers x_t_row_leaders x_t_row_chains x_t_table_courtCount r35 hc35) 3 k_384 mw_X2_follow hd_X2_follow ⟨Nat.le_of_ble_eq_true rfl, Nat.le_of_ble_eq_true rfl⟩ [3, 2, 1, 4, 5, 6, 7, 8] [0] [0, 3, 2, 1, 4, 5, 6, 7, 8] rfl rfl (wr := [0].filterMap (fun i => (wd_X5_streams E a_t a_t_table a_t_table_text a_t_row a_t_row_counts a_t_row_ends a_t_row_comers a_t_row_leaders a_t_row_chains w_t_pad x_t_signs w_t_images w_t_pack w_t_chances w_t_writing w_t_guess w_t_table_weights w_t_table_sightFrom w_t_table_sightOut x_t_table_places x_t_table_beginnings x_t_table_courtCount x_t_table_allowed x_t_table_sights x_t_table_kept x_t_table_text x_t_row_places x_t_row_beginnings x_t_row_counts x_t_row_ends x_t_row_comers x_t_row_leaders x_t_row_chains)[i]?)) rfl rfl rfl 2 0 rfl rfl rfl rfl rfl (Nat.le_of_ble_eq_true rfl) rfl (ws' := (wd_X5_streams E a_t a_t_table a_t_table_text a_t_row a_t_row_counts a_t_row_ends a_t_row_comers a_t_row_leaders a_t_row_chains w_t_pad x_t_signs w_t_images w_t_pack w_t_chances w_t_writing w_t_guess w_t_table_weights w_t_table_sightFrom w_t_table_sightOut x_t_table_places x_t_table_beginnings x_t_table_courtCount x_t_table_allowed x_t_table_sights x_t_table_kept x_t_table_text r35.1 r35.2.1 r35.2.2.1 r35.2.2.2.1 r35.2.2.2.2.1 r35.2.2.2.2.2.1 r35.2.2.2.2.2.2)) rfl ⟨Nat.le_of_ble_eq_true rfl, Nat.le_of_ble_eq_true rfl⟩ dX5_streams_35 (fun H locs hP hD hS => ?_)
    refine lv_aload_n hx hb dX5_streams_38 rfl (lv_at hl 0 rfl) ?_
    refine gf_X5_34 X hP 0 rfl rfl dX5_streams_39 ?_
    obtain ⟨r42, hc42, hf⟩ := bd_some hf
    refine cV_I X hA hP hD hS hl.1 (c_X2_manyEnds l E a_t_row a_t_row_ends (.ref a_t_row_counts) (.ref a_t_row_comers) (.ref a_t_row_leaders) (.ref a_t_row_chains) r35.1 r35.2.1 r35.2.2.2.1 r42 hc42) 0 k_404 mw_X2_manyEnds hd_X2_manyEnds ⟨Nat.le_of_ble_eq_true rfl, Nat.le_of_ble_eq_true rfl⟩ [3, 5] [0, 1, 2, 4, 6, 7, 8] [0, 1, 2, 7, 3, 8, 4, 5, 6] rfl rfl (wr := [0, 1, 2, 4, 6, 7, 8].filterMap (fun i => (wd_X5_streams E a_t a_t_table a_t_table_text a_t_row a_t_row_counts a_t_row_ends a_t_row_comers a_t_row_leaders a_t_row_chains w_t_pad x_t_signs w_t_images w_t_pack w_t_chances w_t_writing w_t_guess w_t_table_weights w_t_table_sightFrom w_t_table_sightOut x_t_table_places x_t_table_beginnings x_t_table_courtCount x_t_table_allowed x_t_table_sights x_t_table_kept x_t_table_text r35.1 r35.2.1 r35.2.2.1 r35.2.2.2.1 r35.2.2.2.2.1 r35.2.2.2.2.2.1 r35.2.2.2.2.2.2)[i]?)) rfl rfl rfl 2 0 rfl rfl rfl rfl rfl (Nat.le_of_ble_eq_true rfl) rfl (ws' := (wd_X5_streams E a_t a_t_table a_t_table_text a_t_row a_t_row_counts a_t_row_ends a_t_row_comers a_t_row_leaders a_t_row_chains w_t_pad x_t_signs w_t_images w_t_pack w_t_chances w_t_writing w_t_guess w_t_table_weights w_t_table_sightFrom w_t_table_sightOut x_t_table_places x_t_table_beginnings x_t_table_courtCount x_t_table_allowed x_t_table_sights x_t_table_kept x_t_table_text r35.1 r35.2.1 r35.2.2.1 r35.2.2.2.1 r35.2.2.2.2.1 r35.2.2.2.2.2.1 r35.2.2.2.2.2.2)) rfl ⟨Nat.le_of_ble_eq_true rfl, Nat.le_of_ble_eq_true rfl⟩ dX5_streams_42 (fun H locs hP hD hS => ?_)
    exact fin' _ _ _ _ _ _ _ _ hf 45 ls H locs dX5_streams_45 rfl hP hD hS
  · have hf := if_t c_7 hf
    refine lv_bipush (v := (-3 : Int32)) hx hb dX5_streams_10 (by decide) ?_
    exact fin' _ _ _ _ _ _ _ _ hf 12 ls H locs dX5_streams_12 rfl hP hD hS
abbrev wd_X5_meet (E : EN) (a_t : Nat) (a_t_table : Nat) (a_t_table_text : Nat) (a_t_row : Nat) (a_t_row_counts : Nat) (w_t_pad : Value) (x_t_signs : Int32) (w_t_images : Value) (w_t_pack : Value) (w_t_chances : Value) (w_t_writing : Value) (w_t_guess : Value) (w_t_table_weights : Value) (w_t_table_sightFrom : Value) (w_t_table_sightOut : Value) (x_t_table_places : Int32) (x_t_table_beginnings : Int32) (x_t_table_courtCount : Int32) (x_t_table_allowed : Int32) (x_t_table_sights : Int32) (x_t_table_kept : Int32) (x_t_table_text : Nat → Int32) (w_t_row_ends : Value) (w_t_row_comers : Value) (w_t_row_leaders : Value) (w_t_row_chains : Value) (x_t_row_places : Int32) (x_t_row_beginnings : Int32) (x_t_row_counts : Nat → Int32) : va_W := [(a_t, e_O 5 [w_t_pad, .int x_t_signs, .ref a_t_table, w_t_images, w_t_pack, .ref a_t_row, w_t_chances, w_t_writing, w_t_guess]), (a_t_table, e_O 3 [.ref a_t_table_text, w_t_table_weights, w_t_table_sightFrom, w_t_table_sightOut, .int x_t_table_places, .int x_t_table_beginnings, .int x_t_table_courtCount, .int x_t_table_allowed, .int x_t_table_sights, .int x_t_table_kept]), (a_t_table_text, e_C E 40 x_t_table_text), (a_t_row, e_O 2 [.ref a_t_row_counts, w_t_row_ends, w_t_row_comers, w_t_row_leaders, w_t_row_chains, .int x_t_row_places, .int x_t_row_beginnings]), (a_t_row_counts, e_I E 40 x_t_row_counts)]
def f_X5_meet (p1 : Int32) (p2 : Int32) (x_t_table_places : Int32) (x_t_table_beginnings : Int32) (x_t_table_courtCount : Int32) (x_t_table_text : Nat → Int32) (x_t_row_places : Int32) (x_t_row_beginnings : Int32) (x_t_row_counts : Nat → Int32) : Option (Int32 × Int32 × Int32 × (Nat → Int32)) :=
  Option.bind (f_X3_has p1 x_t_table_places) (fun r5 =>
  if r5 = 0 then
    some ((-1 : Int32), x_t_row_places, x_t_row_beginnings, x_t_row_counts)
  else
    Option.bind (f_X3_has p2 x_t_table_places) (fun r16 =>
    if r16 = 0 then
      some ((-1 : Int32), x_t_row_places, x_t_row_beginnings, x_t_row_counts)
    else
      Option.bind (f_X3_isWhole x_t_table_places x_t_table_text) (fun r28 =>
      if r28 = 0 then
        some ((-3 : Int32), x_t_row_places, x_t_row_beginnings, x_t_row_counts)
      else
        Option.bind (f_X2_read x_t_table_courtCount x_t_table_text x_t_table_places x_t_table_beginnings x_t_row_counts) (fun r59 =>
        Option.bind (f_X2_streamOf p1 r59.1 r59.2.2) (fun r67 =>
        Option.bind (f_X2_streamOf p2 r59.1 r59.2.2) (fun r75 =>
        if (lg_cmp (r67 &&& r75) (0 : Int64)) = 0 then
          some ((-6 : Int32), r59.1, r59.2.1, r59.2.2)
        else
          Option.bind (f_X5_leastBit (r67 &&& r75)) (fun r92 =>
          some (r92, r59.1, r59.2.1, r59.2.2))))))))
set_option maxHeartbeats 4000000 in
set_option maxRecDepth 100000 in
theorem c_X5_meet (l : Launch) (E : EN) (a_t a_t_table a_t_table_text a_t_row a_t_row_counts : Nat) (w_t_pad : Value) (x_t_signs : Int32) (w_t_images : Value) (w_t_pack : Value) (w_t_chances : Value) (w_t_writing : Value) (w_t_guess : Value) (w_t_table_weights : Value) (w_t_table_sightFrom : Value) (w_t_table_sightOut : Value) (x_t_table_places : Int32) (x_t_table_beginnings : Int32) (x_t_table_courtCount : Int32) (x_t_table_allowed : Int32) (x_t_table_sights : Int32) (x_t_table_kept : Int32) (x_t_table_text : Nat → Int32) (w_t_row_ends : Value) (w_t_row_comers : Value) (w_t_row_leaders : Value) (w_t_row_chains : Value) (x_t_row_places : Int32) (x_t_row_beginnings : Int32) (x_t_row_counts : Nat → Int32) (p1 : Int32) (p2 : Int32) (res : Int32 × Int32 × Int32 × (Nat → Int32)) (hf : f_X5_meet p1 p2 x_t_table_places x_t_table_beginnings x_t_table_courtCount x_t_table_text x_t_row_places x_t_row_beginnings x_t_row_counts = some res) : CtI l yX5_meet cX5_meet 5 .int 2 45 E [.ref a_t, .int p1, .int p2] (wd_X5_meet E a_t a_t_table a_t_table_text a_t_row a_t_row_counts w_t_pad x_t_signs w_t_images w_t_pack w_t_chances w_t_writing w_t_guess w_t_table_weights w_t_table_sightFrom w_t_table_sightOut x_t_table_places x_t_table_beginnings x_t_table_courtCount x_t_table_allowed x_t_table_sights x_t_table_kept x_t_table_text w_t_row_ends w_t_row_comers w_t_row_leaders w_t_row_chains x_t_row_places x_t_row_beginnings x_t_row_counts) (wd_X5_meet E a_t a_t_table a_t_table_text a_t_row a_t_row_counts w_t_pad x_t_signs w_t_images w_t_pack w_t_chances w_t_writing w_t_guess w_t_table_weights w_t_table_sightFrom w_t_table_sightOut x_t_table_places x_t_table_beginnings x_t_table_courtCount x_t_table_allowed x_t_table_sights x_t_table_kept x_t_table_text w_t_row_ends w_t_row_comers w_t_row_leaders w_t_row_chains res.2.1 res.2.2.1 res.2.2.2) res.1 := by
  refine CtI.of RX5 (by decide) rfl (Nat.le_of_ble_eq_true rfl) ?_
  intro p e s m below meth c A Q ls X hA hP hD hl fin
  have hx := X.1
  have hb := X.2.1
  have hl : lv_has ls 5 [(0, .ref a_t), (1, .int p1), (2, .int p2)] := hl
  have fin' : ∀ (fr0 : Int32) (fr1 : Int32) (fr2 : Int32) (fr3 : (Nat → Int32)), some (fr0, fr1, fr2, fr3) = some res → ∀ (pc : Nat) (ls : Array Slot) (H : Heap) (locs : List Loc), decode cX5_meet pc = .ok (.ireturn, 1) → narrow .int (.int fr0) = .int fr0 → va_P E.1 vwCl (wd_X5_meet E a_t a_t_table a_t_table_text a_t_row a_t_row_counts w_t_pad x_t_signs w_t_images w_t_pack w_t_chances w_t_writing w_t_guess w_t_table_weights w_t_table_sightFrom w_t_table_sightOut x_t_table_places x_t_table_beginnings x_t_table_courtCount x_t_table_allowed x_t_table_sights x_t_table_kept x_t_table_text w_t_row_ends w_t_row_comers w_t_row_leaders w_t_row_chains fr1 fr2 fr3) H → va_D A (wd_X5_meet E a_t a_t_table a_t_table_text a_t_row a_t_row_counts w_t_pad x_t_signs w_t_images w_t_pack w_t_chances w_t_writing w_t_guess w_t_table_weights w_t_table_sightFrom w_t_table_sightOut x_t_table_places x_t_table_beginnings x_t_table_courtCount x_t_table_allowed x_t_table_sights x_t_table_kept x_t_table_text w_t_row_ends w_t_row_comers w_t_row_leaders w_t_row_chains fr1 fr2 fr3) → va_S A s.heap H locs → W p l e (rmm 2 45) s m ([.ref a_t, .int p1, .int p2] : List Value).toArray below meth c H locs 0 0 Q (F0 m pc ls [.int fr0]) := by
    intro fr0 fr1 fr2 fr3 he
    cases he
    exact fin
  have hS : va_S A s.heap s.heap [] := va_S.rf
  obtain ⟨H, hH9⟩ : ∃ z, z = s.heap := ⟨_, rfl⟩
  obtain ⟨locs, hL9⟩ : ∃ z : List Loc, z = [] := ⟨_, rfl⟩
  rw [← hL9]
  rw [← hL9] at hS
  have hP : va_P E.1 vwCl (wd_X5_meet E a_t a_t_table a_t_table_text a_t_row a_t_row_counts w_t_pad x_t_signs w_t_images w_t_pack w_t_chances w_t_writing w_t_guess w_t_table_weights w_t_table_sightFrom w_t_table_sightOut x_t_table_places x_t_table_beginnings x_t_table_courtCount x_t_table_allowed x_t_table_sights x_t_table_kept x_t_table_text w_t_row_ends w_t_row_comers w_t_row_leaders w_t_row_chains x_t_row_places x_t_row_beginnings x_t_row_counts) H := by rw [hH9]; exact hP
  have hS : va_S A s.heap H locs := by rw [hH9]; exact hS
  suffices hgoal : W p l e (rmm 2 45) s m ([.ref a_t, .int p1, .int p2] : List Value).toArray below meth c H locs 0 0 Q (F0 m 0 ls []) by rw [hH9] at hgoal; exact hgoal
  rw [f_X5_meet] at hf
  refine lv_aload_n hx hb dX5_meet_0 rfl (lv_at hl 0 rfl) ?_
  refine gf_X5_20 X hP 0 rfl rfl dX5_meet_1 ?_
  refine lv_iload_n hx hb dX5_meet_4 rfl (lv_at hl 1 rfl) ?_
  obtain ⟨r5, hc5, hf⟩ := bd_some hf
  refine cV_I X hA hP hD hS hl.1 (c_X3_has l E a_t_table (.ref a_t_table_text) w_t_table_weights w_t_table_sightFrom w_t_table_sightOut x_t_table_places x_t_table_beginnings x_t_table_courtCount x_t_table_allowed x_t_table_sights x_t_table_kept p1 r5 hc5) 1 k_368 mw_X3_has hd_X3_has ⟨Nat.le_of_ble_eq_true rfl, Nat.le_of_ble_eq_true rfl⟩ [1] [0, 2, 3, 4] [0, 4, 1, 2, 3] rfl rfl (wr := [0, 2, 3, 4].filterMap (fun i => (wd_X5_meet E a_t a_t_table a_t_table_text a_t_row a_t_row_counts w_t_pad x_t_signs w_t_images w_t_pack w_t_chances w_t_writing w_t_guess w_t_table_weights w_t_table_sightFrom w_t_table_sightOut x_t_table_places x_t_table_beginnings x_t_table_courtCount x_t_table_allowed x_t_table_sights x_t_table_kept x_t_table_text w_t_row_ends w_t_row_comers w_t_row_leaders w_t_row_chains x_t_row_places x_t_row_beginnings x_t_row_counts)[i]?)) rfl rfl rfl 3 0 rfl rfl rfl rfl rfl (Nat.le_of_ble_eq_true rfl) rfl (ws' := (wd_X5_meet E a_t a_t_table a_t_table_text a_t_row a_t_row_counts w_t_pad x_t_signs w_t_images w_t_pack w_t_chances w_t_writing w_t_guess w_t_table_weights w_t_table_sightFrom w_t_table_sightOut x_t_table_places x_t_table_beginnings x_t_table_courtCount x_t_table_allowed x_t_table_sights x_t_table_kept x_t_table_text w_t_row_ends w_t_row_comers w_t_row_leaders w_t_row_chains x_t_row_places x_t_row_beginnings x_t_row_counts)) rfl ⟨Nat.le_of_ble_eq_true rfl, Nat.le_of_ble_eq_true rfl⟩ dX5_meet_5 (fun H locs hP hD hS => ?_)
  refine lv_if_eq (tgt := 22) hx hb dX5_meet_8 (by decide) (fun c_8 => ?_) (fun c_8 => ?_)
  · have hf := if_t c_8 hf
    refine lv_iconst (v := (-1 : Int32)) hx hb dX5_meet_22 (by decide) ?_
    exact fin' _ _ _ _ hf 23 ls H locs dX5_meet_23 rfl hP hD hS
  · have hf := if_f c_8 hf
    refine lv_aload_n hx hb dX5_meet_11 rfl (lv_at hl 0 rfl) ?_
    refine gf_X5_20 X hP 0 rfl rfl dX5_meet_12 ?_
    refine lv_iload_n hx hb dX5_meet_15 rfl (lv_at hl 2 rfl) ?_
    obtain ⟨r16, hc16, hf⟩ := bd_some hf
    refine cV_I X hA hP hD hS hl.1 (c_X3_has l E a_t_table (.ref a_t_table_text) w_t_table_weights w_t_table_sightFrom w_t_table_sightOut x_t_table_places x_t_table_beginnings x_t_table_courtCount x_t_table_allowed x_t_table_sights x_t_table_kept p2 r16 hc16) 1 k_368 mw_X3_has hd_X3_has ⟨Nat.le_of_ble_eq_true rfl, Nat.le_of_ble_eq_true rfl⟩ [1] [0, 2, 3, 4] [0, 4, 1, 2, 3] rfl rfl (wr := [0, 2, 3, 4].filterMap (fun i => (wd_X5_meet E a_t a_t_table a_t_table_text a_t_row a_t_row_counts w_t_pad x_t_signs w_t_images w_t_pack w_t_chances w_t_writing w_t_guess w_t_table_weights w_t_table_sightFrom w_t_table_sightOut x_t_table_places x_t_table_beginnings x_t_table_courtCount x_t_table_allowed x_t_table_sights x_t_table_kept x_t_table_text w_t_row_ends w_t_row_comers w_t_row_leaders w_t_row_chains x_t_row_places x_t_row_beginnings x_t_row_counts)[i]?)) rfl rfl rfl 3 0 rfl rfl rfl rfl rfl (Nat.le_of_ble_eq_true rfl) rfl (ws' := (wd_X5_meet E a_t a_t_table a_t_table_text a_t_row a_t_row_counts w_t_pad x_t_signs w_t_images w_t_pack w_t_chances w_t_writing w_t_guess w_t_table_weights w_t_table_sightFrom w_t_table_sightOut x_t_table_places x_t_table_beginnings x_t_table_courtCount x_t_table_allowed x_t_table_sights x_t_table_kept x_t_table_text w_t_row_ends w_t_row_comers w_t_row_leaders w_t_row_chains x_t_row_places x_t_row_beginnings x_t_row_counts)) rfl ⟨Nat.le_of_ble_eq_true rfl, Nat.le_of_ble_eq_true rfl⟩ dX5_meet_16 (fun H locs hP hD hS => ?_)
    refine lv_if_ne (tgt := 24) hx hb dX5_meet_19 (by decide) (fun c_19 => ?_) (fun c_19 => ?_)
    · have hf := if_f c_19 hf
      refine lv_aload_n hx hb dX5_meet_24 rfl (lv_at hl 0 rfl) ?_
      refine gf_X5_20 X hP 0 rfl rfl dX5_meet_25 ?_
      obtain ⟨r28, hc28, hf⟩ := bd_some hf
      refine cV_I X hA hP hD hS hl.1 (c_X3_isWhole l E a_t_table a_t_table_text w_t_table_weights w_t_table_sightFrom w_t_table_sightOut x_t_table_places x_t_table_beginnings x_t_table_courtCount x_t_table_allowed x_t_table_sights x_t_table_kept x_t_table_text r28 hc28) 0 k_376 mw_X3_isWhole hd_X3_isWhole ⟨Nat.le_of_ble_eq_true rfl, Nat.le_of_ble_eq_true rfl⟩ [1, 2] [0, 3, 4] [0, 3, 4, 1, 2] rfl rfl (wr := [0, 3, 4].filterMap (fun i => (wd_X5_meet E a_t a_t_table a_t_table_text a_t_row a_t_row_counts w_t_pad x_t_signs w_t_images w_t_pack w_t_chances w_t_writing w_t_guess w_t_table_weights w_t_table_sightFrom w_t_table_sightOut x_t_table_places x_t_table_beginnings x_t_table_courtCount x_t_table_allowed x_t_table_sights x_t_table_kept x_t_table_text w_t_row_ends w_t_row_comers w_t_row_leaders w_t_row_chains x_t_row_places x_t_row_beginnings x_t_row_counts)[i]?)) rfl rfl rfl 3 0 rfl rfl rfl rfl rfl (Nat.le_of_ble_eq_true rfl) rfl (ws' := (wd_X5_meet E a_t a_t_table a_t_table_text a_t_row a_t_row_counts w_t_pad x_t_signs w_t_images w_t_pack w_t_chances w_t_writing w_t_guess w_t_table_weights w_t_table_sightFrom w_t_table_sightOut x_t_table_places x_t_table_beginnings x_t_table_courtCount x_t_table_allowed x_t_table_sights x_t_table_kept x_t_table_text w_t_row_ends w_t_row_comers w_t_row_leaders w_t_row_chains x_t_row_places x_t_row_beginnings x_t_row_counts)) rfl ⟨Nat.le_of_ble_eq_true rfl, Nat.le_of_ble_eq_true rfl⟩ dX5_meet_28 (fun H locs hP hD hS => ?_)
      refine lv_if_ne (tgt := 37) hx hb dX5_meet_31 (by decide) (fun c_31 => ?_) (fun c_31 => ?_)
      · have hf := if_f c_31 hf
        refine lv_aload_n hx hb dX5_meet_37 rfl (lv_at hl 0 rfl) ?_
        refine gf_X5_34 X hP 0 rfl rfl dX5_meet_38 ?_
        refine lv_aload_n hx hb dX5_meet_41 rfl (lv_at hl 0 rfl) ?_
        refine gf_X5_20 X hP 0 rfl rfl dX5_meet_42 ?_
        refine gf_X5_93 X hP 1 rfl rfl dX5_meet_45 ?_
        refine lv_aload_n hx hb dX5_meet_48 rfl (lv_at hl 0 rfl) ?_
        refine gf_X5_20 X hP 0 rfl rfl dX5_meet_49 ?_
        refine lv_aload_n hx hb dX5_meet_52 rfl (lv_at hl 0 rfl) ?_
        refine gf_X5_20 X hP 0 rfl rfl dX5_meet_53 ?_
        refine gf_X5_77 X hP 1 rfl rfl dX5_meet_56 ?_
        obtain ⟨r59, hc59, hf⟩ := bd_some hf
        refine cV_V X hA hP hD hS hl.1 (c_X2_read l E a_t_row a_t_table_text a_t_table a_t_row_counts w_t_row_ends w_t_row_comers w_t_row_leaders w_t_row_chains x_t_row_places x_t_row_beginnings x_t_table_text (.ref a_t_table_text) w_t_table_weights w_t_table_sightFrom w_t_table_sightOut x_t_table_places x_t_table_beginnings x_t_table_courtCount x_t_table_allowed x_t_table_sights x_t_table_kept x_t_row_counts x_t_table_courtCount r59 hc59) 3 k_418 mw_X2_read hd_X2_read ⟨Nat.le_of_ble_eq_true rfl, Nat.le_of_ble_eq_true rfl⟩ [3, 2, 1, 4] [0] [0, 3, 2, 1, 4] rfl rfl (wr := [0].filterMap (fun i => (wd_X5_meet E a_t a_t_table a_t_table_text a_t_row a_t_row_counts w_t_pad x_t_signs w_t_images w_t_pack w_t_chances w_t_writing w_t_guess w_t_table_weights w_t_table_sightFrom w_t_table_sightOut x_t_table_places x_t_table_beginnings x_t_table_courtCount x_t_table_allowed x_t_table_sights x_t_table_kept x_t_table_text w_t_row_ends w_t_row_comers w_t_row_leaders w_t_row_chains x_t_row_places x_t_row_beginnings x_t_row_counts)[i]?)) rfl rfl rfl 2 0 rfl rfl rfl rfl rfl (Nat.le_of_ble_eq_true rfl) rfl (ws' := (wd_X5_meet E a_t a_t_table a_t_table_text a_t_row a_t_row_counts w_t_pad x_t_signs w_t_images w_t_pack w_t_chances w_t_writing w_t_guess w_t_table_weights w_t_table_sightFrom w_t_table_sightOut x_t_table_places x_t_table_beginnings x_t_table_courtCount x_t_table_allowed x_t_table_sights x_t_table_kept x_t_table_text w_t_row_ends w_t_row_comers w_t_row_leaders w_t_row_chains r59.1 r59.2.1 r59.2.2)) rfl ⟨Nat.le_of_ble_eq_true rfl, Nat.le_of_ble_eq_true rfl⟩ dX5_meet_59 (fun H locs hP hD hS => ?_)
        refine lv_aload_n hx hb dX5_meet_62 rfl (lv_at hl 0 rfl) ?_
        refine gf_X5_34 X hP 0 rfl rfl dX5_meet_63 ?_
        refine lv_iload_n hx hb dX5_meet_66 rfl (lv_at hl 1 rfl) ?_
        obtain ⟨r67, hc67, hf⟩ := bd_some hf
        refine cV_L X hA hP hD hS hl.1 (c_X2_streamOf l E a_t_row a_t_row_counts w_t_row_ends w_t_row_comers w_t_row_leaders w_t_row_chains r59.1 r59.2.1 r59.2.2 p1 r67 hc67) 1 k_419 mw_X2_streamOf hd_X2_streamOf ⟨Nat.le_of_ble_eq_true rfl, Nat.le_of_ble_eq_true rfl⟩ [3, 4] [0, 1, 2] [0, 1, 2, 3, 4] rfl rfl (wr := [0, 1, 2].filterMap (fun i => (wd_X5_meet E a_t a_t_table a_t_table_text a_t_row a_t_row_counts w_t_pad x_t_signs w_t_images w_t_pack w_t_chances w_t_writing w_t_guess w_t_table_weights w_t_table_sightFrom w_t_table_sightOut x_t_table_places x_t_table_beginnings x_t_table_courtCount x_t_table_allowed x_t_table_sights x_t_table_kept x_t_table_text w_t_row_ends w_t_row_comers w_t_row_leaders w_t_row_chains r59.1 r59.2.1 r59.2.2)[i]?)) rfl rfl rfl 2 0 rfl rfl rfl rfl rfl (Nat.le_of_ble_eq_true rfl) rfl (ws' := (wd_X5_meet E a_t a_t_table a_t_table_text a_t_row a_t_row_counts w_t_pad x_t_signs w_t_images w_t_pack w_t_chances w_t_writing w_t_guess w_t_table_weights w_t_table_sightFrom w_t_table_sightOut x_t_table_places x_t_table_beginnings x_t_table_courtCount x_t_table_allowed x_t_table_sights x_t_table_kept x_t_table_text w_t_row_ends w_t_row_comers w_t_row_leaders w_t_row_chains r59.1 r59.2.1 r59.2.2)) rfl ⟨Nat.le_of_ble_eq_true rfl, Nat.le_of_ble_eq_true rfl⟩ dX5_meet_67 (fun H locs hP hD hS => ?_)
        refine lv_aload_n hx hb dX5_meet_70 rfl (lv_at hl 0 rfl) ?_
        refine gf_X5_34 X hP 0 rfl rfl dX5_meet_71 ?_
        refine lv_iload_n hx hb dX5_meet_74 rfl (lv_at hl 2 rfl) ?_
        obtain ⟨r75, hc75, hf⟩ := bd_some hf
        refine cV_L X hA hP hD hS hl.1 (c_X2_streamOf l E a_t_row a_t_row_counts w_t_row_ends w_t_row_comers w_t_row_leaders w_t_row_chains r59.1 r59.2.1 r59.2.2 p2 r75 hc75) 1 k_419 mw_X2_streamOf hd_X2_streamOf ⟨Nat.le_of_ble_eq_true rfl, Nat.le_of_ble_eq_true rfl⟩ [3, 4] [0, 1, 2] [0, 1, 2, 3, 4] rfl rfl (wr := [0, 1, 2].filterMap (fun i => (wd_X5_meet E a_t a_t_table a_t_table_text a_t_row a_t_row_counts w_t_pad x_t_signs w_t_images w_t_pack w_t_chances w_t_writing w_t_guess w_t_table_weights w_t_table_sightFrom w_t_table_sightOut x_t_table_places x_t_table_beginnings x_t_table_courtCount x_t_table_allowed x_t_table_sights x_t_table_kept x_t_table_text w_t_row_ends w_t_row_comers w_t_row_leaders w_t_row_chains r59.1 r59.2.1 r59.2.2)[i]?)) rfl rfl rfl 2 0 rfl rfl rfl rfl rfl (Nat.le_of_ble_eq_true rfl) rfl (ws' := (wd_X5_meet E a_t a_t_table a_t_table_text a_t_row a_t_row_counts w_t_pad x_t_signs w_t_images w_t_pack w_t_chances w_t_writing w_t_guess w_t_table_weights w_t_table_sightFrom w_t_table_sightOut x_t_table_places x_t_table_beginnings x_t_table_courtCount x_t_table_allowed x_t_table_sights x_t_table_kept x_t_table_text w_t_row_ends w_t_row_comers w_t_row_leaders w_t_row_chains r59.1 r59.2.1 r59.2.2)) rfl ⟨Nat.le_of_ble_eq_true rfl, Nat.le_of_ble_eq_true rfl⟩ dX5_meet_75 (fun H locs hP hD hS => ?_)
        refine lv_land hx hb dX5_meet_78 ?_
        refine lv_lstore_n (lv' := [(3, .long (r67 &&& r75)), (0, .ref a_t), (1, .int p1), (2, .int p2)]) hx hb dX5_meet_79 rfl hl (by decide) rfl (fun ls hl => ?_)
        refine lv_lload_n hx hb dX5_meet_80 rfl (lv_at hl 0 rfl) ?_
        refine lv_lconst (v := (0 : Int64)) hx hb dX5_meet_81 (by decide) ?_
        refine W.lcmp hx hb dX5_meet_82 ?_
        refine lv_if_ne (tgt := 91) hx hb dX5_meet_83 (by decide) (fun c_83 => ?_) (fun c_83 => ?_)
        · have hf := if_f c_83 hf
          refine lv_lload_n hx hb dX5_meet_91 rfl (lv_at hl 0 rfl) ?_
          obtain ⟨r92, hc92, hf⟩ := bd_some hf
          refine cS_I X hA hP hD hS hl.1 (c_X5_leastBit l E (r67 &&& r75) r92 hc92) 1 k_423 mw_X5_leastBit hd_X5_leastBit ⟨Nat.le_of_ble_eq_true rfl, Nat.le_of_ble_eq_true rfl⟩ [] [0, 1, 2, 3, 4] [0, 1, 2, 3, 4] rfl rfl (wr := [0, 1, 2, 3, 4].filterMap (fun i => (wd_X5_meet E a_t a_t_table a_t_table_text a_t_row a_t_row_counts w_t_pad x_t_signs w_t_images w_t_pack w_t_chances w_t_writing w_t_guess w_t_table_weights w_t_table_sightFrom w_t_table_sightOut x_t_table_places x_t_table_beginnings x_t_table_courtCount x_t_table_allowed x_t_table_sights x_t_table_kept x_t_table_text w_t_row_ends w_t_row_comers w_t_row_leaders w_t_row_chains r59.1 r59.2.1 r59.2.2)[i]?)) rfl rfl rfl rfl rfl (Nat.le_of_ble_eq_true rfl) rfl (ws' := (wd_X5_meet E a_t a_t_table a_t_table_text a_t_row a_t_row_counts w_t_pad x_t_signs w_t_images w_t_pack w_t_chances w_t_writing w_t_guess w_t_table_weights w_t_table_sightFrom w_t_table_sightOut x_t_table_places x_t_table_beginnings x_t_table_courtCount x_t_table_allowed x_t_table_sights x_t_table_kept x_t_table_text w_t_row_ends w_t_row_comers w_t_row_leaders w_t_row_chains r59.1 r59.2.1 r59.2.2)) rfl ⟨Nat.le_of_ble_eq_true rfl, Nat.le_of_ble_eq_true rfl⟩ dX5_meet_92 (fun H locs hP hD hS => ?_)
          exact fin' _ _ _ _ hf 95 ls H locs dX5_meet_95 rfl hP hD hS
        · have hf := if_t c_83 hf
          refine lv_bipush (v := (-6 : Int32)) hx hb dX5_meet_86 (by decide) ?_
          refine lv_goto (tgt := 95) hx hb dX5_meet_88 (by decide) ?_
          exact fin' _ _ _ _ hf 95 ls H locs dX5_meet_95 rfl hP hD hS
      · have hf := if_t c_31 hf
        refine lv_bipush (v := (-3 : Int32)) hx hb dX5_meet_34 (by decide) ?_
        exact fin' _ _ _ _ hf 36 ls H locs dX5_meet_36 rfl hP hD hS
    · have hf := if_t c_19 hf
      refine lv_iconst (v := (-1 : Int32)) hx hb dX5_meet_22 (by decide) ?_
      exact fin' _ _ _ _ hf 23 ls H locs dX5_meet_23 rfl hP hD hS
abbrev wd_X5_pass (E : EN) (a_t : Nat) (a_t_table : Nat) (a_t_table_text : Nat) (a_t_row : Nat) (a_t_row_counts : Nat) (w_t_pad : Value) (x_t_signs : Int32) (w_t_images : Value) (w_t_pack : Value) (w_t_chances : Value) (w_t_writing : Value) (w_t_guess : Value) (w_t_table_weights : Value) (w_t_table_sightFrom : Value) (w_t_table_sightOut : Value) (x_t_table_places : Int32) (x_t_table_beginnings : Int32) (x_t_table_courtCount : Int32) (x_t_table_allowed : Int32) (x_t_table_sights : Int32) (x_t_table_kept : Int32) (x_t_table_text : Nat → Int32) (w_t_row_ends : Value) (w_t_row_comers : Value) (w_t_row_leaders : Value) (w_t_row_chains : Value) (x_t_row_places : Int32) (x_t_row_beginnings : Int32) (x_t_row_counts : Nat → Int32) : va_W := [(a_t, e_O 5 [w_t_pad, .int x_t_signs, .ref a_t_table, w_t_images, w_t_pack, .ref a_t_row, w_t_chances, w_t_writing, w_t_guess]), (a_t_table, e_O 3 [.ref a_t_table_text, w_t_table_weights, w_t_table_sightFrom, w_t_table_sightOut, .int x_t_table_places, .int x_t_table_beginnings, .int x_t_table_courtCount, .int x_t_table_allowed, .int x_t_table_sights, .int x_t_table_kept]), (a_t_table_text, e_C E 40 x_t_table_text), (a_t_row, e_O 2 [.ref a_t_row_counts, w_t_row_ends, w_t_row_comers, w_t_row_leaders, w_t_row_chains, .int x_t_row_places, .int x_t_row_beginnings]), (a_t_row_counts, e_I E 40 x_t_row_counts)]
def f_X5_pass (p1 : Int32) (x_t_table_places : Int32) (x_t_table_beginnings : Int32) (x_t_table_courtCount : Int32) (x_t_table_text : Nat → Int32) (x_t_row_places : Int32) (x_t_row_beginnings : Int32) (x_t_row_counts : Nat → Int32) : Option (Int32 × Int32 × Int32 × (Nat → Int32)) :=
  Option.bind (f_X3_isWhole x_t_table_places x_t_table_text) (fun r4 =>
  if r4 = 0 then
    some ((-3 : Int32), x_t_row_places, x_t_row_beginnings, x_t_row_counts)
  else
    Option.bind (f_X2_read x_t_table_courtCount x_t_table_text x_t_table_places x_t_table_beginnings x_t_row_counts) (fun r35 =>
    Option.bind (f_X2_passedByAll r35.1 r35.2.1 r35.2.2) (fun r42 =>
    if p1 = (-1 : Int32) then
      Option.bind (f_J13_bitCount_95d88 r42) (fun r52 =>
      some (r52, r35.1, r35.2.1, r35.2.2))
    else
      Option.bind (f_X5_bitAt r42 p1) (fun r60 =>
      some (r60, r35.1, r35.2.1, r35.2.2)))))
set_option maxHeartbeats 4000000 in
set_option maxRecDepth 100000 in
theorem c_X5_pass (l : Launch) (E : EN) (a_t a_t_table a_t_table_text a_t_row a_t_row_counts : Nat) (w_t_pad : Value) (x_t_signs : Int32) (w_t_images : Value) (w_t_pack : Value) (w_t_chances : Value) (w_t_writing : Value) (w_t_guess : Value) (w_t_table_weights : Value) (w_t_table_sightFrom : Value) (w_t_table_sightOut : Value) (x_t_table_places : Int32) (x_t_table_beginnings : Int32) (x_t_table_courtCount : Int32) (x_t_table_allowed : Int32) (x_t_table_sights : Int32) (x_t_table_kept : Int32) (x_t_table_text : Nat → Int32) (w_t_row_ends : Value) (w_t_row_comers : Value) (w_t_row_leaders : Value) (w_t_row_chains : Value) (x_t_row_places : Int32) (x_t_row_beginnings : Int32) (x_t_row_counts : Nat → Int32) (p1 : Int32) (res : Int32 × Int32 × Int32 × (Nat → Int32)) (hf : f_X5_pass p1 x_t_table_places x_t_table_beginnings x_t_table_courtCount x_t_table_text x_t_row_places x_t_row_beginnings x_t_row_counts = some res) : CtI l yX5_pass cX5_pass 4 .int 2 48 E [.ref a_t, .int p1] (wd_X5_pass E a_t a_t_table a_t_table_text a_t_row a_t_row_counts w_t_pad x_t_signs w_t_images w_t_pack w_t_chances w_t_writing w_t_guess w_t_table_weights w_t_table_sightFrom w_t_table_sightOut x_t_table_places x_t_table_beginnings x_t_table_courtCount x_t_table_allowed x_t_table_sights x_t_table_kept x_t_table_text w_t_row_ends w_t_row_comers w_t_row_leaders w_t_row_chains x_t_row_places x_t_row_beginnings x_t_row_counts) (wd_X5_pass E a_t a_t_table a_t_table_text a_t_row a_t_row_counts w_t_pad x_t_signs w_t_images w_t_pack w_t_chances w_t_writing w_t_guess w_t_table_weights w_t_table_sightFrom w_t_table_sightOut x_t_table_places x_t_table_beginnings x_t_table_courtCount x_t_table_allowed x_t_table_sights x_t_table_kept x_t_table_text w_t_row_ends w_t_row_comers w_t_row_leaders w_t_row_chains res.2.1 res.2.2.1 res.2.2.2) res.1 := by
  refine CtI.of RX5 (by decide) rfl (Nat.le_of_ble_eq_true rfl) ?_
  intro p e s m below meth c A Q ls X hA hP hD hl fin
  have hx := X.1
  have hb := X.2.1
  have hl : lv_has ls 4 [(0, .ref a_t), (1, .int p1)] := hl
  have fin' : ∀ (fr0 : Int32) (fr1 : Int32) (fr2 : Int32) (fr3 : (Nat → Int32)), some (fr0, fr1, fr2, fr3) = some res → ∀ (pc : Nat) (ls : Array Slot) (H : Heap) (locs : List Loc), decode cX5_pass pc = .ok (.ireturn, 1) → narrow .int (.int fr0) = .int fr0 → va_P E.1 vwCl (wd_X5_pass E a_t a_t_table a_t_table_text a_t_row a_t_row_counts w_t_pad x_t_signs w_t_images w_t_pack w_t_chances w_t_writing w_t_guess w_t_table_weights w_t_table_sightFrom w_t_table_sightOut x_t_table_places x_t_table_beginnings x_t_table_courtCount x_t_table_allowed x_t_table_sights x_t_table_kept x_t_table_text w_t_row_ends w_t_row_comers w_t_row_leaders w_t_row_chains fr1 fr2 fr3) H → va_D A (wd_X5_pass E a_t a_t_table a_t_table_text a_t_row a_t_row_counts w_t_pad x_t_signs w_t_images w_t_pack w_t_chances w_t_writing w_t_guess w_t_table_weights w_t_table_sightFrom w_t_table_sightOut x_t_table_places x_t_table_beginnings x_t_table_courtCount x_t_table_allowed x_t_table_sights x_t_table_kept x_t_table_text w_t_row_ends w_t_row_comers w_t_row_leaders w_t_row_chains fr1 fr2 fr3) → va_S A s.heap H locs → W p l e (rmm 2 48) s m ([.ref a_t, .int p1] : List Value).toArray below meth c H locs 0 0 Q (F0 m pc ls [.int fr0]) := by
    intro fr0 fr1 fr2 fr3 he
    cases he
    exact fin
  have hS : va_S A s.heap s.heap [] := va_S.rf
  obtain ⟨H, hH9⟩ : ∃ z, z = s.heap := ⟨_, rfl⟩
  obtain ⟨locs, hL9⟩ : ∃ z : List Loc, z = [] := ⟨_, rfl⟩
  rw [← hL9]
  rw [← hL9] at hS
  have hP : va_P E.1 vwCl (wd_X5_pass E a_t a_t_table a_t_table_text a_t_row a_t_row_counts w_t_pad x_t_signs w_t_images w_t_pack w_t_chances w_t_writing w_t_guess w_t_table_weights w_t_table_sightFrom w_t_table_sightOut x_t_table_places x_t_table_beginnings x_t_table_courtCount x_t_table_allowed x_t_table_sights x_t_table_kept x_t_table_text w_t_row_ends w_t_row_comers w_t_row_leaders w_t_row_chains x_t_row_places x_t_row_beginnings x_t_row_counts) H := by rw [hH9]; exact hP
  have hS : va_S A s.heap H locs := by rw [hH9]; exact hS
  suffices hgoal : W p l e (rmm 2 48) s m ([.ref a_t, .int p1] : List Value).toArray below meth c H locs 0 0 Q (F0 m 0 ls []) by rw [hH9] at hgoal; exact hgoal
  rw [f_X5_pass] at hf
  refine lv_aload_n hx hb dX5_pass_0 rfl (lv_at hl 0 rfl) ?_
  refine gf_X5_20 X hP 0 rfl rfl dX5_pass_1 ?_
  obtain ⟨r4, hc4, hf⟩ := bd_some hf
  refine cV_I X hA hP hD hS hl.1 (c_X3_isWhole l E a_t_table a_t_table_text w_t_table_weights w_t_table_sightFrom w_t_table_sightOut x_t_table_places x_t_table_beginnings x_t_table_courtCount x_t_table_allowed x_t_table_sights x_t_table_kept x_t_table_text r4 hc4) 0 k_376 mw_X3_isWhole hd_X3_isWhole ⟨Nat.le_of_ble_eq_true rfl, Nat.le_of_ble_eq_true rfl⟩ [1, 2] [0, 3, 4] [0, 3, 4, 1, 2] rfl rfl (wr := [0, 3, 4].filterMap (fun i => (wd_X5_pass E a_t a_t_table a_t_table_text a_t_row a_t_row_counts w_t_pad x_t_signs w_t_images w_t_pack w_t_chances w_t_writing w_t_guess w_t_table_weights w_t_table_sightFrom w_t_table_sightOut x_t_table_places x_t_table_beginnings x_t_table_courtCount x_t_table_allowed x_t_table_sights x_t_table_kept x_t_table_text w_t_row_ends w_t_row_comers w_t_row_leaders w_t_row_chains x_t_row_places x_t_row_beginnings x_t_row_counts)[i]?)) rfl rfl rfl 3 0 rfl rfl rfl rfl rfl (Nat.le_of_ble_eq_true rfl) rfl (ws' := (wd_X5_pass E a_t a_t_table a_t_table_text a_t_row a_t_row_counts w_t_pad x_t_signs w_t_images w_t_pack w_t_chances w_t_writing w_t_guess w_t_table_weights w_t_table_sightFrom w_t_table_sightOut x_t_table_places x_t_table_beginnings x_t_table_courtCount x_t_table_allowed x_t_table_sights x_t_table_kept x_t_table_text w_t_row_ends w_t_row_comers w_t_row_leaders w_t_row_chains x_t_row_places x_t_row_beginnings x_t_row_counts)) rfl ⟨Nat.le_of_ble_eq_true rfl, Nat.le_of_ble_eq_true rfl⟩ dX5_pass_4 (fun H locs hP hD hS => ?_)
  refine lv_if_ne (tgt := 13) hx hb dX5_pass_7 (by decide) (fun c_7 => ?_) (fun c_7 => ?_)
  · have hf := if_f c_7 hf
    refine lv_aload_n hx hb dX5_pass_13 rfl (lv_at hl 0 rfl) ?_
    refine gf_X5_34 X hP 0 rfl rfl dX5_pass_14 ?_
    refine lv_aload_n hx hb dX5_pass_17 rfl (lv_at hl 0 rfl) ?_
    refine gf_X5_20 X hP 0 rfl rfl dX5_pass_18 ?_
    refine gf_X5_93 X hP 1 rfl rfl dX5_pass_21 ?_
    refine lv_aload_n hx hb dX5_pass_24 rfl (lv_at hl 0 rfl) ?_
    refine gf_X5_20 X hP 0 rfl rfl dX5_pass_25 ?_
    refine lv_aload_n hx hb dX5_pass_28 rfl (lv_at hl 0 rfl) ?_
    refine gf_X5_20 X hP 0 rfl rfl dX5_pass_29 ?_
    refine gf_X5_77 X hP 1 rfl rfl dX5_pass_32 ?_
    obtain ⟨r35, hc35, hf⟩ := bd_some hf
    refine cV_V X hA hP hD hS hl.1 (c_X2_read l E a_t_row a_t_table_text a_t_table a_t_row_counts w_t_row_ends w_t_row_comers w_t_row_leaders w_t_row_chains x_t_row_places x_t_row_beginnings x_t_table_text (.ref a_t_table_text) w_t_table_weights w_t_table_sightFrom w_t_table_sightOut x_t_table_places x_t_table_beginnings x_t_table_courtCount x_t_table_allowed x_t_table_sights x_t_table_kept x_t_row_counts x_t_table_courtCount r35 hc35) 3 k_418 mw_X2_read hd_X2_read ⟨Nat.le_of_ble_eq_true rfl, Nat.le_of_ble_eq_true rfl⟩ [3, 2, 1, 4] [0] [0, 3, 2, 1, 4] rfl rfl (wr := [0].filterMap (fun i => (wd_X5_pass E a_t a_t_table a_t_table_text a_t_row a_t_row_counts w_t_pad x_t_signs w_t_images w_t_pack w_t_chances w_t_writing w_t_guess w_t_table_weights w_t_table_sightFrom w_t_table_sightOut x_t_table_places x_t_table_beginnings x_t_table_courtCount x_t_table_allowed x_t_table_sights x_t_table_kept x_t_table_text w_t_row_ends w_t_row_comers w_t_row_leaders w_t_row_chains x_t_row_places x_t_row_beginnings x_t_row_counts)[i]?)) rfl rfl rfl 2 0 rfl rfl rfl rfl rfl (Nat.le_of_ble_eq_true rfl) rfl (ws' := (wd_X5_pass E a_t a_t_table a_t_table_text a_t_row a_t_row_counts w_t_pad x_t_signs w_t_images w_t_pack w_t_chances w_t_writing w_t_guess w_t_table_weights w_t_table_sightFrom w_t_table_sightOut x_t_table_places x_t_table_beginnings x_t_table_courtCount x_t_table_allowed x_t_table_sights x_t_table_kept x_t_table_text w_t_row_ends w_t_row_comers w_t_row_leaders w_t_row_chains r35.1 r35.2.1 r35.2.2)) rfl ⟨Nat.le_of_ble_eq_true rfl, Nat.le_of_ble_eq_true rfl⟩ dX5_pass_35 (fun H locs hP hD hS => ?_)
    refine lv_aload_n hx hb dX5_pass_38 rfl (lv_at hl 0 rfl) ?_
    refine gf_X5_34 X hP 0 rfl rfl dX5_pass_39 ?_
    obtain ⟨r42, hc42, hf⟩ := bd_some hf
    refine cV_L X hA hP hD hS hl.1 (c_X2_passedByAll l E a_t_row a_t_row_counts w_t_row_ends w_t_row_comers w_t_row_leaders w_t_row_chains r35.1 r35.2.1 r35.2.2 r42 hc42) 0 k_431 mw_X2_passedByAll hd_X2_passedByAll ⟨Nat.le_of_ble_eq_true rfl, Nat.le_of_ble_eq_true rfl⟩ [3, 4] [0, 1, 2] [0, 1, 2, 3, 4] rfl rfl (wr := [0, 1, 2].filterMap (fun i => (wd_X5_pass E a_t a_t_table a_t_table_text a_t_row a_t_row_counts w_t_pad x_t_signs w_t_images w_t_pack w_t_chances w_t_writing w_t_guess w_t_table_weights w_t_table_sightFrom w_t_table_sightOut x_t_table_places x_t_table_beginnings x_t_table_courtCount x_t_table_allowed x_t_table_sights x_t_table_kept x_t_table_text w_t_row_ends w_t_row_comers w_t_row_leaders w_t_row_chains r35.1 r35.2.1 r35.2.2)[i]?)) rfl rfl rfl 2 0 rfl rfl rfl rfl rfl (Nat.le_of_ble_eq_true rfl) rfl (ws' := (wd_X5_pass E a_t a_t_table a_t_table_text a_t_row a_t_row_counts w_t_pad x_t_signs w_t_images w_t_pack w_t_chances w_t_writing w_t_guess w_t_table_weights w_t_table_sightFrom w_t_table_sightOut x_t_table_places x_t_table_beginnings x_t_table_courtCount x_t_table_allowed x_t_table_sights x_t_table_kept x_t_table_text w_t_row_ends w_t_row_comers w_t_row_leaders w_t_row_chains r35.1 r35.2.1 r35.2.2)) rfl ⟨Nat.le_of_ble_eq_true rfl, Nat.le_of_ble_eq_true rfl⟩ dX5_pass_42 (fun H locs hP hD hS => ?_)
    refine lv_lstore_n (lv' := [(2, .long r42), (0, .ref a_t), (1, .int p1)]) hx hb dX5_pass_45 rfl hl (by decide) rfl (fun ls hl => ?_)
    refine lv_iload_n hx hb dX5_pass_46 rfl (lv_at hl 2 rfl) ?_
    refine lv_iconst (v := (-1 : Int32)) hx hb dX5_pass_47 (by decide) ?_
    refine lv_icmp_ne (tgt := 58) hx hb dX5_pass_48 (by decide) (fun c_48 => ?_) (fun c_48 => ?_)
    · have hf := if_f c_48 hf
      refine lv_lload_n hx hb dX5_pass_58 rfl (lv_at hl 0 rfl) ?_
      refine lv_iload_n hx hb dX5_pass_59 rfl (lv_at hl 2 rfl) ?_
      obtain ⟨r60, hc60, hf⟩ := bd_some hf
      refine cS_I X hA hP hD hS hl.1 (c_X5_bitAt l E r42 p1 r60 hc60) 2 k_437 mw_X5_bitAt hd_X5_bitAt ⟨Nat.le_of_ble_eq_true rfl, Nat.le_of_ble_eq_true rfl⟩ [] [0, 1, 2, 3, 4] [0, 1, 2, 3, 4] rfl rfl (wr := [0, 1, 2, 3, 4].filterMap (fun i => (wd_X5_pass E a_t a_t_table a_t_table_text a_t_row a_t_row_counts w_t_pad x_t_signs w_t_images w_t_pack w_t_chances w_t_writing w_t_guess w_t_table_weights w_t_table_sightFrom w_t_table_sightOut x_t_table_places x_t_table_beginnings x_t_table_courtCount x_t_table_allowed x_t_table_sights x_t_table_kept x_t_table_text w_t_row_ends w_t_row_comers w_t_row_leaders w_t_row_chains r35.1 r35.2.1 r35.2.2)[i]?)) rfl rfl rfl rfl rfl (Nat.le_of_ble_eq_true rfl) rfl (ws' := (wd_X5_pass E a_t a_t_table a_t_table_text a_t_row a_t_row_counts w_t_pad x_t_signs w_t_images w_t_pack w_t_chances w_t_writing w_t_guess w_t_table_weights w_t_table_sightFrom w_t_table_sightOut x_t_table_places x_t_table_beginnings x_t_table_courtCount x_t_table_allowed x_t_table_sights x_t_table_kept x_t_table_text w_t_row_ends w_t_row_comers w_t_row_leaders w_t_row_chains r35.1 r35.2.1 r35.2.2)) rfl ⟨Nat.le_of_ble_eq_true rfl, Nat.le_of_ble_eq_true rfl⟩ dX5_pass_60 (fun H locs hP hD hS => ?_)
      exact fin' _ _ _ _ hf 63 ls H locs dX5_pass_63 rfl hP hD hS
    · have hf := if_t c_48 hf
      refine lv_lload_n hx hb dX5_pass_51 rfl (lv_at hl 0 rfl) ?_
      obtain ⟨r52, hc52, hf⟩ := bd_some hf
      refine cS_I X hA hP hD hS hl.1 (c_J13_bitCount_95d88 l E r42 r52 hc52) 1 k_426 mw_J13_bitCount_95d88 hd_J13_bitCount_95d88 ⟨Nat.le_of_ble_eq_true rfl, Nat.le_of_ble_eq_true rfl⟩ [] [0, 1, 2, 3, 4] [0, 1, 2, 3, 4] rfl rfl (wr := [0, 1, 2, 3, 4].filterMap (fun i => (wd_X5_pass E a_t a_t_table a_t_table_text a_t_row a_t_row_counts w_t_pad x_t_signs w_t_images w_t_pack w_t_chances w_t_writing w_t_guess w_t_table_weights w_t_table_sightFrom w_t_table_sightOut x_t_table_places x_t_table_beginnings x_t_table_courtCount x_t_table_allowed x_t_table_sights x_t_table_kept x_t_table_text w_t_row_ends w_t_row_comers w_t_row_leaders w_t_row_chains r35.1 r35.2.1 r35.2.2)[i]?)) rfl rfl rfl rfl rfl (Nat.le_of_ble_eq_true rfl) rfl (ws' := (wd_X5_pass E a_t a_t_table a_t_table_text a_t_row a_t_row_counts w_t_pad x_t_signs w_t_images w_t_pack w_t_chances w_t_writing w_t_guess w_t_table_weights w_t_table_sightFrom w_t_table_sightOut x_t_table_places x_t_table_beginnings x_t_table_courtCount x_t_table_allowed x_t_table_sights x_t_table_kept x_t_table_text w_t_row_ends w_t_row_comers w_t_row_leaders w_t_row_chains r35.1 r35.2.1 r35.2.2)) rfl ⟨Nat.le_of_ble_eq_true rfl, Nat.le_of_ble_eq_true rfl⟩ dX5_pass_52 (fun H locs hP hD hS => ?_)
      refine lv_goto (tgt := 63) hx hb dX5_pass_55 (by decide) ?_
      exact fin' _ _ _ _ hf 63 ls H locs dX5_pass_63 rfl hP hD hS
  · have hf := if_t c_7 hf
    refine lv_bipush (v := (-3 : Int32)) hx hb dX5_pass_10 (by decide) ?_
    exact fin' _ _ _ _ hf 12 ls H locs dX5_pass_12 rfl hP hD hS
abbrev wd_X5_tree (E : EN) (a_t : Nat) (a_t_table : Nat) (a_t_table_text : Nat) (a_t_row : Nat) (a_t_row_counts : Nat) (a_t_row_ends : Nat) (a_t_row_comers : Nat) (a_t_row_leaders : Nat) (a_t_row_chains : Nat) (w_t_pad : Value) (x_t_signs : Int32) (w_t_images : Value) (w_t_pack : Value) (w_t_chances : Value) (w_t_writing : Value) (w_t_guess : Value) (w_t_table_weights : Value) (w_t_table_sightFrom : Value) (w_t_table_sightOut : Value) (x_t_table_places : Int32) (x_t_table_beginnings : Int32) (x_t_table_courtCount : Int32) (x_t_table_allowed : Int32) (x_t_table_sights : Int32) (x_t_table_kept : Int32) (x_t_table_text : Nat → Int32) (x_t_row_places : Int32) (x_t_row_beginnings : Int32) (x_t_row_counts : Nat → Int32) (x_t_row_ends : Nat → Int32) (x_t_row_comers : Nat → Int32) (x_t_row_leaders : Nat → Int32) (x_t_row_chains : Nat → Int32) : va_W := [(a_t, e_O 5 [w_t_pad, .int x_t_signs, .ref a_t_table, w_t_images, w_t_pack, .ref a_t_row, w_t_chances, w_t_writing, w_t_guess]), (a_t_table, e_O 3 [.ref a_t_table_text, w_t_table_weights, w_t_table_sightFrom, w_t_table_sightOut, .int x_t_table_places, .int x_t_table_beginnings, .int x_t_table_courtCount, .int x_t_table_allowed, .int x_t_table_sights, .int x_t_table_kept]), (a_t_table_text, e_C E 40 x_t_table_text), (a_t_row, e_O 2 [.ref a_t_row_counts, .ref a_t_row_ends, .ref a_t_row_comers, .ref a_t_row_leaders, .ref a_t_row_chains, .int x_t_row_places, .int x_t_row_beginnings]), (a_t_row_counts, e_I E 40 x_t_row_counts), (a_t_row_ends, e_I E 40 x_t_row_ends), (a_t_row_comers, e_I E 40 x_t_row_comers), (a_t_row_leaders, e_I E 40 x_t_row_leaders), (a_t_row_chains, e_I E 40 x_t_row_chains)]
def f_X5_tree (p1 : Int32) (p2 : Int32) (x_t_table_places : Int32) (x_t_table_beginnings : Int32) (x_t_table_courtCount : Int32) (x_t_table_text : Nat → Int32) (x_t_row_places : Int32) (x_t_row_beginnings : Int32) (x_t_row_counts : Nat → Int32) (x_t_row_ends : Nat → Int32) (x_t_row_comers : Nat → Int32) (x_t_row_leaders : Nat → Int32) (x_t_row_chains : Nat → Int32) : Option (Int32 × Int32 × Int32 × (Nat → Int32) × (Nat → Int32) × (Nat → Int32) × (Nat → Int32) × (Nat → Int32)) :=
  Option.bind (f_X3_has p1 x_t_table_places) (fun r5 =>
  if r5 = 0 then
    some ((-1 : Int32), x_t_row_places, x_t_row_beginnings, x_t_row_counts, x_t_row_ends, x_t_row_comers, x_t_row_leaders, x_t_row_chains)
  else
    if p2 < 0 then
      some ((-2 : Int32), x_t_row_places, x_t_row_beginnings, x_t_row_counts, x_t_row_ends, x_t_row_comers, x_t_row_leaders, x_t_row_chains)
    else
      if p2 ≤ (2 : Int32) then
        Option.bind (f_X3_isWhole x_t_table_places x_t_table_text) (fun r29 =>
        if r29 = 0 then
          some ((-3 : Int32), x_t_row_places, x_t_row_beginnings, x_t_row_counts, x_t_row_ends, x_t_row_comers, x_t_row_leaders, x_t_row_chains)
        else
          Option.bind (f_X2_follow x_t_table_courtCount x_t_table_text x_t_table_places x_t_table_beginnings x_t_row_counts x_t_row_ends x_t_row_comers x_t_row_leaders x_t_row_chains) (fun r60 =>
          if p2 = 0 then
            ck (inB p1 40) (
            some ((r60.2.2.2.2.1 (ix p1)), r60.1, r60.2.1, r60.2.2.1, r60.2.2.2.1, r60.2.2.2.2.1, r60.2.2.2.2.2.1, r60.2.2.2.2.2.2))
          else
            if p2 = (1 : Int32) then
              ck (inB p1 40) (
              some ((r60.2.2.2.2.2.1 (ix p1)), r60.1, r60.2.1, r60.2.2.1, r60.2.2.2.1, r60.2.2.2.2.1, r60.2.2.2.2.2.1, r60.2.2.2.2.2.2))
            else
              ck (inB p1 40) (
              some ((r60.2.2.2.2.2.2 (ix p1)), r60.1, r60.2.1, r60.2.2.1, r60.2.2.2.1, r60.2.2.2.2.1, r60.2.2.2.2.2.1, r60.2.2.2.2.2.2))))
      else
        some ((-2 : Int32), x_t_row_places, x_t_row_beginnings, x_t_row_counts, x_t_row_ends, x_t_row_comers, x_t_row_leaders, x_t_row_chains))
set_option maxHeartbeats 4000000 in
set_option maxRecDepth 100000 in
theorem c_X5_tree (l : Launch) (E : EN) (a_t a_t_table a_t_table_text a_t_row a_t_row_counts a_t_row_ends a_t_row_comers a_t_row_leaders a_t_row_chains : Nat) (w_t_pad : Value) (x_t_signs : Int32) (w_t_images : Value) (w_t_pack : Value) (w_t_chances : Value) (w_t_writing : Value) (w_t_guess : Value) (w_t_table_weights : Value) (w_t_table_sightFrom : Value) (w_t_table_sightOut : Value) (x_t_table_places : Int32) (x_t_table_beginnings : Int32) (x_t_table_courtCount : Int32) (x_t_table_allowed : Int32) (x_t_table_sights : Int32) (x_t_table_kept : Int32) (x_t_table_text : Nat → Int32) (x_t_row_places : Int32) (x_t_row_beginnings : Int32) (x_t_row_counts : Nat → Int32) (x_t_row_ends : Nat → Int32) (x_t_row_comers : Nat → Int32) (x_t_row_leaders : Nat → Int32) (x_t_row_chains : Nat → Int32) (p1 : Int32) (p2 : Int32) (res : Int32 × Int32 × Int32 × (Nat → Int32) × (Nat → Int32) × (Nat → Int32) × (Nat → Int32) × (Nat → Int32)) (hf : f_X5_tree p1 p2 x_t_table_places x_t_table_beginnings x_t_table_courtCount x_t_table_text x_t_row_places x_t_row_beginnings x_t_row_counts x_t_row_ends x_t_row_comers x_t_row_leaders x_t_row_chains = some res) : CtI l yX5_tree cX5_tree 3 .int 3 70 E [.ref a_t, .int p1, .int p2] (wd_X5_tree E a_t a_t_table a_t_table_text a_t_row a_t_row_counts a_t_row_ends a_t_row_comers a_t_row_leaders a_t_row_chains w_t_pad x_t_signs w_t_images w_t_pack w_t_chances w_t_writing w_t_guess w_t_table_weights w_t_table_sightFrom w_t_table_sightOut x_t_table_places x_t_table_beginnings x_t_table_courtCount x_t_table_allowed x_t_table_sights x_t_table_kept x_t_table_text x_t_row_places x_t_row_beginnings x_t_row_counts x_t_row_ends x_t_row_comers x_t_row_leaders x_t_row_chains) (wd_X5_tree E a_t a_t_table a_t_table_text a_t_row a_t_row_counts a_t_row_ends a_t_row_comers a_t_row_leaders a_t_row_chains w_t_pad x_t_signs w_t_images w_t_pack w_t_chances w_t_writing w_t_guess w_t_table_weights w_t_table_sightFrom w_t_table_sightOut x_t_table_places x_t_table_beginnings x_t_table_courtCount x_t_table_allowed x_t_table_sights x_t_table_kept x_t_table_text res.2.1 res.2.2.1 res.2.2.2.1 res.2.2.2.2.1 res.2.2.2.2.2.1 res.2.2.2.2.2.2.1 res.2.2.2.2.2.2.2) res.1 := by
  refine CtI.of RX5 (by decide) rfl (Nat.le_of_ble_eq_true rfl) ?_
  intro p e s m below meth c A Q ls X hA hP hD hl fin
  have hx := X.1
  have hb := X.2.1
  have hl : lv_has ls 3 [(0, .ref a_t), (1, .int p1), (2, .int p2)] := hl
  have fin' : ∀ (fr0 : Int32) (fr1 : Int32) (fr2 : Int32) (fr3 : (Nat → Int32)) (fr4 : (Nat → Int32)) (fr5 : (Nat → Int32)) (fr6 : (Nat → Int32)) (fr7 : (Nat → Int32)), some (fr0, fr1, fr2, fr3, fr4, fr5, fr6, fr7) = some res → ∀ (pc : Nat) (ls : Array Slot) (H : Heap) (locs : List Loc), decode cX5_tree pc = .ok (.ireturn, 1) → narrow .int (.int fr0) = .int fr0 → va_P E.1 vwCl (wd_X5_tree E a_t a_t_table a_t_table_text a_t_row a_t_row_counts a_t_row_ends a_t_row_comers a_t_row_leaders a_t_row_chains w_t_pad x_t_signs w_t_images w_t_pack w_t_chances w_t_writing w_t_guess w_t_table_weights w_t_table_sightFrom w_t_table_sightOut x_t_table_places x_t_table_beginnings x_t_table_courtCount x_t_table_allowed x_t_table_sights x_t_table_kept x_t_table_text fr1 fr2 fr3 fr4 fr5 fr6 fr7) H → va_D A (wd_X5_tree E a_t a_t_table a_t_table_text a_t_row a_t_row_counts a_t_row_ends a_t_row_comers a_t_row_leaders a_t_row_chains w_t_pad x_t_signs w_t_images w_t_pack w_t_chances w_t_writing w_t_guess w_t_table_weights w_t_table_sightFrom w_t_table_sightOut x_t_table_places x_t_table_beginnings x_t_table_courtCount x_t_table_allowed x_t_table_sights x_t_table_kept x_t_table_text fr1 fr2 fr3 fr4 fr5 fr6 fr7) → va_S A s.heap H locs → W p l e (rmm 3 70) s m ([.ref a_t, .int p1, .int p2] : List Value).toArray below meth c H locs 0 0 Q (F0 m pc ls [.int fr0]) := by
    intro fr0 fr1 fr2 fr3 fr4 fr5 fr6 fr7 he
    cases he
    exact fin
  have hS : va_S A s.heap s.heap [] := va_S.rf
  obtain ⟨H, hH9⟩ : ∃ z, z = s.heap := ⟨_, rfl⟩
  obtain ⟨locs, hL9⟩ : ∃ z : List Loc, z = [] := ⟨_, rfl⟩
  rw [← hL9]
  rw [← hL9] at hS
  have hP : va_P E.1 vwCl (wd_X5_tree E a_t a_t_table a_t_table_text a_t_row a_t_row_counts a_t_row_ends a_t_row_comers a_t_row_leaders a_t_row_chains w_t_pad x_t_signs w_t_images w_t_pack w_t_chances w_t_writing w_t_guess w_t_table_weights w_t_table_sightFrom w_t_table_sightOut x_t_table_places x_t_table_beginnings x_t_table_courtCount x_t_table_allowed x_t_table_sights x_t_table_kept x_t_table_text x_t_row_places x_t_row_beginnings x_t_row_counts x_t_row_ends x_t_row_comers x_t_row_leaders x_t_row_chains) H := by rw [hH9]; exact hP
  have hS : va_S A s.heap H locs := by rw [hH9]; exact hS
  suffices hgoal : W p l e (rmm 3 70) s m ([.ref a_t, .int p1, .int p2] : List Value).toArray below meth c H locs 0 0 Q (F0 m 0 ls []) by rw [hH9] at hgoal; exact hgoal
  rw [f_X5_tree] at hf
  refine lv_aload_n hx hb dX5_tree_0 rfl (lv_at hl 0 rfl) ?_
  refine gf_X5_20 X hP 0 rfl rfl dX5_tree_1 ?_
  refine lv_iload_n hx hb dX5_tree_4 rfl (lv_at hl 1 rfl) ?_
  obtain ⟨r5, hc5, hf⟩ := bd_some hf
  refine cV_I X hA hP hD hS hl.1 (c_X3_has l E a_t_table (.ref a_t_table_text) w_t_table_weights w_t_table_sightFrom w_t_table_sightOut x_t_table_places x_t_table_beginnings x_t_table_courtCount x_t_table_allowed x_t_table_sights x_t_table_kept p1 r5 hc5) 1 k_368 mw_X3_has hd_X3_has ⟨Nat.le_of_ble_eq_true rfl, Nat.le_of_ble_eq_true rfl⟩ [1] [0, 2, 3, 4, 5, 6, 7, 8] [0, 8, 1, 2, 3, 4, 5, 6, 7] rfl rfl (wr := [0, 2, 3, 4, 5, 6, 7, 8].filterMap (fun i => (wd_X5_tree E a_t a_t_table a_t_table_text a_t_row a_t_row_counts a_t_row_ends a_t_row_comers a_t_row_leaders a_t_row_chains w_t_pad x_t_signs w_t_images w_t_pack w_t_chances w_t_writing w_t_guess w_t_table_weights w_t_table_sightFrom w_t_table_sightOut x_t_table_places x_t_table_beginnings x_t_table_courtCount x_t_table_allowed x_t_table_sights x_t_table_kept x_t_table_text x_t_row_places x_t_row_beginnings x_t_row_counts x_t_row_ends x_t_row_comers x_t_row_leaders x_t_row_chains)[i]?)) rfl rfl rfl 3 0 rfl rfl rfl rfl rfl (Nat.le_of_ble_eq_true rfl) rfl (ws' := (wd_X5_tree E a_t a_t_table a_t_table_text a_t_row a_t_row_counts a_t_row_ends a_t_row_comers a_t_row_leaders a_t_row_chains w_t_pad x_t_signs w_t_images w_t_pack w_t_chances w_t_writing w_t_guess w_t_table_weights w_t_table_sightFrom w_t_table_sightOut x_t_table_places x_t_table_beginnings x_t_table_courtCount x_t_table_allowed x_t_table_sights x_t_table_kept x_t_table_text x_t_row_places x_t_row_beginnings x_t_row_counts x_t_row_ends x_t_row_comers x_t_row_leaders x_t_row_chains)) rfl ⟨Nat.le_of_ble_eq_true rfl, Nat.le_of_ble_eq_true rfl⟩ dX5_tree_5 (fun H locs hP hD hS => ?_)
  refine lv_if_ne (tgt := 13) hx hb dX5_tree_8 (by decide) (fun c_8 => ?_) (fun c_8 => ?_)
  · have hf := if_f c_8 hf
    refine lv_iload_n hx hb dX5_tree_13 rfl (lv_at hl 2 rfl) ?_
    refine lv_if_lt (tgt := 22) hx hb dX5_tree_14 (by decide) (fun c_14 => ?_) (fun c_14 => ?_)
    · have hf := if_t c_14 hf
      refine lv_bipush (v := (-2 : Int32)) hx hb dX5_tree_22 (by decide) ?_
      exact fin' _ _ _ _ _ _ _ _ hf 24 ls H locs dX5_tree_24 rfl hP hD hS
    · have hf := if_f c_14 hf
      refine lv_iload_n hx hb dX5_tree_17 rfl (lv_at hl 2 rfl) ?_
      refine lv_iconst (v := (2 : Int32)) hx hb dX5_tree_18 (by decide) ?_
      refine lv_icmp_le (tgt := 25) hx hb dX5_tree_19 (by decide) (fun c_19 => ?_) (fun c_19 => ?_)
      · have hf := if_t c_19 hf
        refine lv_aload_n hx hb dX5_tree_25 rfl (lv_at hl 0 rfl) ?_
        refine gf_X5_20 X hP 0 rfl rfl dX5_tree_26 ?_
        obtain ⟨r29, hc29, hf⟩ := bd_some hf
        refine cV_I X hA hP hD hS hl.1 (c_X3_isWhole l E a_t_table a_t_table_text w_t_table_weights w_t_table_sightFrom w_t_table_sightOut x_t_table_places x_t_table_beginnings x_t_table_courtCount x_t_table_allowed x_t_table_sights x_t_table_kept x_t_table_text r29 hc29) 0 k_376 mw_X3_isWhole hd_X3_isWhole ⟨Nat.le_of_ble_eq_true rfl, Nat.le_of_ble_eq_true rfl⟩ [1, 2] [0, 3, 4, 5, 6, 7, 8] [0, 7, 8, 1, 2, 3, 4, 5, 6] rfl rfl (wr := [0, 3, 4, 5, 6, 7, 8].filterMap (fun i => (wd_X5_tree E a_t a_t_table a_t_table_text a_t_row a_t_row_counts a_t_row_ends a_t_row_comers a_t_row_leaders a_t_row_chains w_t_pad x_t_signs w_t_images w_t_pack w_t_chances w_t_writing w_t_guess w_t_table_weights w_t_table_sightFrom w_t_table_sightOut x_t_table_places x_t_table_beginnings x_t_table_courtCount x_t_table_allowed x_t_table_sights x_t_table_kept x_t_table_text x_t_row_places x_t_row_beginnings x_t_row_counts x_t_row_ends x_t_row_comers x_t_row_leaders x_t_row_chains)[i]?)) rfl rfl rfl 3 0 rfl rfl rfl rfl rfl (Nat.le_of_ble_eq_true rfl) rfl (ws' := (wd_X5_tree E a_t a_t_table a_t_table_text a_t_row a_t_row_counts a_t_row_ends a_t_row_comers a_t_row_leaders a_t_row_chains w_t_pad x_t_signs w_t_images w_t_pack w_t_chances w_t_writing w_t_guess w_t_table_weights w_t_table_sightFrom w_t_table_sightOut x_t_table_places x_t_table_beginnings x_t_table_courtCount x_t_table_allowed x_t_table_sights x_t_table_kept x_t_table_text x_t_row_places x_t_row_beginnings x_t_row_counts x_t_row_ends x_t_row_comers x_t_row_leaders x_t_row_chains)) rfl ⟨Nat.le_of_ble_eq_true rfl, Nat.le_of_ble_eq_true rfl⟩ dX5_tree_29 (fun H locs hP hD hS => ?_)
        refine lv_if_ne (tgt := 38) hx hb dX5_tree_32 (by decide) (fun c_32 => ?_) (fun c_32 => ?_)
        · have hf := if_f c_32 hf
          refine lv_aload_n hx hb dX5_tree_38 rfl (lv_at hl 0 rfl) ?_
          refine gf_X5_34 X hP 0 rfl rfl dX5_tree_39 ?_
          refine lv_aload_n hx hb dX5_tree_42 rfl (lv_at hl 0 rfl) ?_
          refine gf_X5_20 X hP 0 rfl rfl dX5_tree_43 ?_
          refine gf_X5_93 X hP 1 rfl rfl dX5_tree_46 ?_
          refine lv_aload_n hx hb dX5_tree_49 rfl (lv_at hl 0 rfl) ?_
          refine gf_X5_20 X hP 0 rfl rfl dX5_tree_50 ?_
          refine lv_aload_n hx hb dX5_tree_53 rfl (lv_at hl 0 rfl) ?_
          refine gf_X5_20 X hP 0 rfl rfl dX5_tree_54 ?_
          refine gf_X5_77 X hP 1 rfl rfl dX5_tree_57 ?_
          obtain ⟨r60, hc60, hf⟩ := bd_some hf
          refine cV_V X hA hP hD hS hl.1 (c_X2_follow l E a_t_row a_t_table_text a_t_table a_t_row_counts a_t_row_ends a_t_row_comers a_t_row_leaders a_t_row_chains x_t_row_places x_t_row_beginnings x_t_table_text (.ref a_t_table_text) w_t_table_weights w_t_table_sightFrom w_t_table_sightOut x_t_table_places x_t_table_beginnings x_t_table_courtCount x_t_table_allowed x_t_table_sights x_t_table_kept x_t_row_counts x_t_row_ends x_t_row_comers x_t_row_leaders x_t_row_chains x_t_table_courtCount r60 hc60) 3 k_384 mw_X2_follow hd_X2_follow ⟨Nat.le_of_ble_eq_true rfl, Nat.le_of_ble_eq_true rfl⟩ [3, 2, 1, 4, 5, 6, 7, 8] [0] [0, 3, 2, 1, 4, 5, 6, 7, 8] rfl rfl (wr := [0].filterMap (fun i => (wd_X5_tree E a_t a_t_table a_t_table_text a_t_row a_t_row_counts a_t_row_ends a_t_row_comers a_t_row_leaders a_t_row_chains w_t_pad x_t_signs w_t_images w_t_pack w_t_chances w_t_writing w_t_guess w_t_table_weights w_t_table_sightFrom w_t_table_sightOut x_t_table_places x_t_table_beginnings x_t_table_courtCount x_t_table_allowed x_t_table_sights x_t_table_kept x_t_table_text x_t_row_places x_t_row_beginnings x_t_row_counts x_t_row_ends x_t_row_comers x_t_row_leaders x_t_row_chains)[i]?)) rfl rfl rfl 2 0 rfl rfl rfl rfl rfl (Nat.le_of_ble_eq_true rfl) rfl (ws' := (wd_X5_tree E a_t a_t_table a_t_table_text a_t_row a_t_row_counts a_t_row_ends a_t_row_comers a_t_row_leaders a_t_row_chains w_t_pad x_t_signs w_t_images w_t_pack w_t_chances w_t_writing w_t_guess w_t_table_weights w_t_table_sightFrom w_t_table_sightOut x_t_table_places x_t_table_beginnings x_t_table_courtCount x_t_table_allowed x_t_table_sights x_t_table_kept x_t_table_text r60.1 r60.2.1 r60.2.2.1 r60.2.2.2.1 r60.2.2.2.2.1 r60.2.2.2.2.2.1 r60.2.2.2.2.2.2)) rfl ⟨Nat.le_of_ble_eq_true rfl, Nat.le_of_ble_eq_true rfl⟩ dX5_tree_60 (fun H locs hP hD hS => ?_)
          refine lv_iload_n hx hb dX5_tree_63 rfl (lv_at hl 2 rfl) ?_
          refine lv_if_ne (tgt := 77) hx hb dX5_tree_64 (by decide) (fun c_64 => ?_) (fun c_64 => ?_)
          · have hf := if_f c_64 hf
            refine lv_iload_n hx hb dX5_tree_77 rfl (lv_at hl 2 rfl) ?_
            refine lv_iconst (v := (1 : Int32)) hx hb dX5_tree_78 (by decide) ?_
            refine lv_icmp_ne (tgt := 94) hx hb dX5_tree_79 (by decide) (fun c_79 => ?_) (fun c_79 => ?_)
            · have hf := if_f c_79 hf
              refine lv_aload_n hx hb dX5_tree_94 rfl (lv_at hl 0 rfl) ?_
              refine gf_X5_34 X hP 0 rfl rfl dX5_tree_95 ?_
              refine gf_X5_144 X hP 3 rfl rfl dX5_tree_98 ?_
              refine lv_iload_n hx hb dX5_tree_101 rfl (lv_at hl 1 rfl) ?_
              obtain ⟨hi102, hf⟩ := ck_some hf
              refine r_iald X hP 8 rfl hi102 dX5_tree_102 ?_
              exact fin' _ _ _ _ _ _ _ _ hf 103 ls H locs dX5_tree_103 rfl hP hD hS
            · have hf := if_t c_79 hf
              refine lv_aload_n hx hb dX5_tree_82 rfl (lv_at hl 0 rfl) ?_
              refine gf_X5_34 X hP 0 rfl rfl dX5_tree_83 ?_
              refine gf_X5_141 X hP 3 rfl rfl dX5_tree_86 ?_
              refine lv_iload_n hx hb dX5_tree_89 rfl (lv_at hl 1 rfl) ?_
              obtain ⟨hi90, hf⟩ := ck_some hf
              refine r_iald X hP 7 rfl hi90 dX5_tree_90 ?_
              refine lv_goto (tgt := 103) hx hb dX5_tree_91 (by decide) ?_
              exact fin' _ _ _ _ _ _ _ _ hf 103 ls H locs dX5_tree_103 rfl hP hD hS
          · have hf := if_t c_64 hf
            refine lv_aload_n hx hb dX5_tree_67 rfl (lv_at hl 0 rfl) ?_
            refine gf_X5_34 X hP 0 rfl rfl dX5_tree_68 ?_
            refine gf_X5_138 X hP 3 rfl rfl dX5_tree_71 ?_
            refine lv_iload_n hx hb dX5_tree_74 rfl (lv_at hl 1 rfl) ?_
            obtain ⟨hi75, hf⟩ := ck_some hf
            refine r_iald X hP 6 rfl hi75 dX5_tree_75 ?_
            exact fin' _ _ _ _ _ _ _ _ hf 76 ls H locs dX5_tree_76 rfl hP hD hS
        · have hf := if_t c_32 hf
          refine lv_bipush (v := (-3 : Int32)) hx hb dX5_tree_35 (by decide) ?_
          exact fin' _ _ _ _ _ _ _ _ hf 37 ls H locs dX5_tree_37 rfl hP hD hS
      · have hf := if_f c_19 hf
        refine lv_bipush (v := (-2 : Int32)) hx hb dX5_tree_22 (by decide) ?_
        exact fin' _ _ _ _ _ _ _ _ hf 24 ls H locs dX5_tree_24 rfl hP hD hS
  · have hf := if_t c_8 hf
    refine lv_iconst (v := (-1 : Int32)) hx hb dX5_tree_11 (by decide) ?_
    exact fin' _ _ _ _ _ _ _ _ hf 12 ls H locs dX5_tree_12 rfl hP hD hS
abbrev wd_X5_nowhere (E : EN) (a_t : Nat) (a_t_table : Nat) (a_t_table_text : Nat) (a_t_row : Nat) (a_t_row_counts : Nat) (a_t_row_ends : Nat) (a_t_row_comers : Nat) (a_t_row_leaders : Nat) (a_t_row_chains : Nat) (w_t_pad : Value) (x_t_signs : Int32) (w_t_images : Value) (w_t_pack : Value) (w_t_chances : Value) (w_t_writing : Value) (w_t_guess : Value) (w_t_table_weights : Value) (w_t_table_sightFrom : Value) (w_t_table_sightOut : Value) (x_t_table_places : Int32) (x_t_table_beginnings : Int32) (x_t_table_courtCount : Int32) (x_t_table_allowed : Int32) (x_t_table_sights : Int32) (x_t_table_kept : Int32) (x_t_table_text : Nat → Int32) (x_t_row_places : Int32) (x_t_row_beginnings : Int32) (x_t_row_counts : Nat → Int32) (x_t_row_ends : Nat → Int32) (x_t_row_comers : Nat → Int32) (x_t_row_leaders : Nat → Int32) (x_t_row_chains : Nat → Int32) : va_W := [(a_t, e_O 5 [w_t_pad, .int x_t_signs, .ref a_t_table, w_t_images, w_t_pack, .ref a_t_row, w_t_chances, w_t_writing, w_t_guess]), (a_t_table, e_O 3 [.ref a_t_table_text, w_t_table_weights, w_t_table_sightFrom, w_t_table_sightOut, .int x_t_table_places, .int x_t_table_beginnings, .int x_t_table_courtCount, .int x_t_table_allowed, .int x_t_table_sights, .int x_t_table_kept]), (a_t_table_text, e_C E 40 x_t_table_text), (a_t_row, e_O 2 [.ref a_t_row_counts, .ref a_t_row_ends, .ref a_t_row_comers, .ref a_t_row_leaders, .ref a_t_row_chains, .int x_t_row_places, .int x_t_row_beginnings]), (a_t_row_counts, e_I E 40 x_t_row_counts), (a_t_row_ends, e_I E 40 x_t_row_ends), (a_t_row_comers, e_I E 40 x_t_row_comers), (a_t_row_leaders, e_I E 40 x_t_row_leaders), (a_t_row_chains, e_I E 40 x_t_row_chains)]
def f_X5_nowhere_42  : Nat → Int32 → Int32 → Int32 → Int32 → (Nat → Int32) → (Nat → Int32) → (Nat → Int32) → (Nat → Int32) → (Nat → Int32) → Option (Int32 × Int32 × Int32 × (Nat → Int32) × (Nat → Int32) × (Nat → Int32) × (Nat → Int32) × (Nat → Int32))
  | 0, _, _, _, _, _, _, _, _, _ => none
  | n_ + 1, v1, v2, m_t_row_places, m_t_row_beginnings, m_t_row_counts, m_t_row_ends, m_t_row_comers, m_t_row_leaders, m_t_row_chains =>
    if m_t_row_places ≤ v2 then
      some (v1, m_t_row_places, m_t_row_beginnings, m_t_row_counts, m_t_row_ends, m_t_row_comers, m_t_row_leaders, m_t_row_chains)
    else
      ck (inB v2 40) (
      if (m_t_row_leaders (ix v2)) = 0 then
        f_X5_nowhere_42 n_ (v1 + (1 : Int32)) (v2 + (1 : Int32)) m_t_row_places m_t_row_beginnings m_t_row_counts m_t_row_ends m_t_row_comers m_t_row_leaders m_t_row_chains
      else
        f_X5_nowhere_42 n_ v1 (v2 + (1 : Int32)) m_t_row_places m_t_row_beginnings m_t_row_counts m_t_row_ends m_t_row_comers m_t_row_leaders m_t_row_chains)
def f_X5_nowhere (x_t_table_places : Int32) (x_t_table_beginnings : Int32) (x_t_table_courtCount : Int32) (x_t_table_text : Nat → Int32) (x_t_row_places : Int32) (x_t_row_beginnings : Int32) (x_t_row_counts : Nat → Int32) (x_t_row_ends : Nat → Int32) (x_t_row_comers : Nat → Int32) (x_t_row_leaders : Nat → Int32) (x_t_row_chains : Nat → Int32) : Option (Int32 × Int32 × Int32 × (Nat → Int32) × (Nat → Int32) × (Nat → Int32) × (Nat → Int32) × (Nat → Int32)) :=
  Option.bind (f_X3_isWhole x_t_table_places x_t_table_text) (fun r4 =>
  if r4 = 0 then
    some ((-3 : Int32), x_t_row_places, x_t_row_beginnings, x_t_row_counts, x_t_row_ends, x_t_row_comers, x_t_row_leaders, x_t_row_chains)
  else
    Option.bind (f_X2_follow x_t_table_courtCount x_t_table_text x_t_table_places x_t_table_beginnings x_t_row_counts x_t_row_ends x_t_row_comers x_t_row_leaders x_t_row_chains) (fun r35 =>
    f_X5_nowhere_42 FU (0 : Int32) (0 : Int32) r35.1 r35.2.1 r35.2.2.1 r35.2.2.2.1 r35.2.2.2.2.1 r35.2.2.2.2.2.1 r35.2.2.2.2.2.2))
set_option maxHeartbeats 4000000 in
set_option maxRecDepth 100000 in
theorem c_X5_nowhere (l : Launch) (E : EN) (a_t a_t_table a_t_table_text a_t_row a_t_row_counts a_t_row_ends a_t_row_comers a_t_row_leaders a_t_row_chains : Nat) (w_t_pad : Value) (x_t_signs : Int32) (w_t_images : Value) (w_t_pack : Value) (w_t_chances : Value) (w_t_writing : Value) (w_t_guess : Value) (w_t_table_weights : Value) (w_t_table_sightFrom : Value) (w_t_table_sightOut : Value) (x_t_table_places : Int32) (x_t_table_beginnings : Int32) (x_t_table_courtCount : Int32) (x_t_table_allowed : Int32) (x_t_table_sights : Int32) (x_t_table_kept : Int32) (x_t_table_text : Nat → Int32) (x_t_row_places : Int32) (x_t_row_beginnings : Int32) (x_t_row_counts : Nat → Int32) (x_t_row_ends : Nat → Int32) (x_t_row_comers : Nat → Int32) (x_t_row_leaders : Nat → Int32) (x_t_row_chains : Nat → Int32)  (res : Int32 × Int32 × Int32 × (Nat → Int32) × (Nat → Int32) × (Nat → Int32) × (Nat → Int32) × (Nat → Int32)) (hf : f_X5_nowhere x_t_table_places x_t_table_beginnings x_t_table_courtCount x_t_table_text x_t_row_places x_t_row_beginnings x_t_row_counts x_t_row_ends x_t_row_comers x_t_row_leaders x_t_row_chains = some res) : CtI l yX5_nowhere cX5_nowhere 3 .int 3 70 E [.ref a_t] (wd_X5_nowhere E a_t a_t_table a_t_table_text a_t_row a_t_row_counts a_t_row_ends a_t_row_comers a_t_row_leaders a_t_row_chains w_t_pad x_t_signs w_t_images w_t_pack w_t_chances w_t_writing w_t_guess w_t_table_weights w_t_table_sightFrom w_t_table_sightOut x_t_table_places x_t_table_beginnings x_t_table_courtCount x_t_table_allowed x_t_table_sights x_t_table_kept x_t_table_text x_t_row_places x_t_row_beginnings x_t_row_counts x_t_row_ends x_t_row_comers x_t_row_leaders x_t_row_chains) (wd_X5_nowhere E a_t a_t_table a_t_table_text a_t_row a_t_row_counts a_t_row_ends a_t_row_comers a_t_row_leaders a_t_row_chains w_t_pad x_t_signs w_t_images w_t_pack w_t_chances w_t_writing w_t_guess w_t_table_weights w_t_table_sightFrom w_t_table_sightOut x_t_table_places x_t_table_beginnings x_t_table_courtCount x_t_table_allowed x_t_table_sights x_t_table_kept x_t_table_text res.2.1 res.2.2.1 res.2.2.2.1 res.2.2.2.2.1 res.2.2.2.2.2.1 res.2.2.2.2.2.2.1 res.2.2.2.2.2.2.2) res.1 := by
  refine CtI.of RX5 (by decide) rfl (Nat.le_of_ble_eq_true rfl) ?_
  intro p e s m below meth c A Q ls X hA hP hD hl fin
  have hx := X.1
  have hb := X.2.1
  have hl : lv_has ls 3 [(0, .ref a_t)] := hl
  have fin' : ∀ (fr0 : Int32) (fr1 : Int32) (fr2 : Int32) (fr3 : (Nat → Int32)) (fr4 : (Nat → Int32)) (fr5 : (Nat → Int32)) (fr6 : (Nat → Int32)) (fr7 : (Nat → Int32)), some (fr0, fr1, fr2, fr3, fr4, fr5, fr6, fr7) = some res → ∀ (pc : Nat) (ls : Array Slot) (H : Heap) (locs : List Loc), decode cX5_nowhere pc = .ok (.ireturn, 1) → narrow .int (.int fr0) = .int fr0 → va_P E.1 vwCl (wd_X5_nowhere E a_t a_t_table a_t_table_text a_t_row a_t_row_counts a_t_row_ends a_t_row_comers a_t_row_leaders a_t_row_chains w_t_pad x_t_signs w_t_images w_t_pack w_t_chances w_t_writing w_t_guess w_t_table_weights w_t_table_sightFrom w_t_table_sightOut x_t_table_places x_t_table_beginnings x_t_table_courtCount x_t_table_allowed x_t_table_sights x_t_table_kept x_t_table_text fr1 fr2 fr3 fr4 fr5 fr6 fr7) H → va_D A (wd_X5_nowhere E a_t a_t_table a_t_table_text a_t_row a_t_row_counts a_t_row_ends a_t_row_comers a_t_row_leaders a_t_row_chains w_t_pad x_t_signs w_t_images w_t_pack w_t_chances w_t_writing w_t_guess w_t_table_weights w_t_table_sightFrom w_t_table_sightOut x_t_table_places x_t_table_beginnings x_t_table_courtCount x_t_table_allowed x_t_table_sights x_t_table_kept x_t_table_text fr1 fr2 fr3 fr4 fr5 fr6 fr7) → va_S A s.heap H locs → W p l e (rmm 3 70) s m ([.ref a_t] : List Value).toArray below meth c H locs 0 0 Q (F0 m pc ls [.int fr0]) := by
    intro fr0 fr1 fr2 fr3 fr4 fr5 fr6 fr7 he
    cases he
    exact fin
  have L42 : ∀ (n42 : Nat) (v1 : Int32) (v2 : Int32) (m_t_row_places : Int32) (m_t_row_beginnings : Int32) (m_t_row_counts : Nat → Int32) (m_t_row_ends : Nat → Int32) (m_t_row_comers : Nat → Int32) (m_t_row_leaders : Nat → Int32) (m_t_row_chains : Nat → Int32), f_X5_nowhere_42 n42 v1 v2 m_t_row_places m_t_row_beginnings m_t_row_counts m_t_row_ends m_t_row_comers m_t_row_leaders m_t_row_chains = some res → ∀ (H : Heap) (locs : List Loc) (ls : Array Slot), va_P E.1 vwCl (wd_X5_nowhere E a_t a_t_table a_t_table_text a_t_row a_t_row_counts a_t_row_ends a_t_row_comers a_t_row_leaders a_t_row_chains w_t_pad x_t_signs w_t_images w_t_pack w_t_chances w_t_writing w_t_guess w_t_table_weights w_t_table_sightFrom w_t_table_sightOut x_t_table_places x_t_table_beginnings x_t_table_courtCount x_t_table_allowed x_t_table_sights x_t_table_kept x_t_table_text m_t_row_places m_t_row_beginnings m_t_row_counts m_t_row_ends m_t_row_comers m_t_row_leaders m_t_row_chains) H → va_D A (wd_X5_nowhere E a_t a_t_table a_t_table_text a_t_row a_t_row_counts a_t_row_ends a_t_row_comers a_t_row_leaders a_t_row_chains w_t_pad x_t_signs w_t_images w_t_pack w_t_chances w_t_writing w_t_guess w_t_table_weights w_t_table_sightFrom w_t_table_sightOut x_t_table_places x_t_table_beginnings x_t_table_courtCount x_t_table_allowed x_t_table_sights x_t_table_kept x_t_table_text m_t_row_places m_t_row_beginnings m_t_row_counts m_t_row_ends m_t_row_comers m_t_row_leaders m_t_row_chains) → va_S A s.heap H locs → lv_has ls 3 [(0, .ref a_t), (1, .int v1), (2, .int v2)] → W p l e (rmm 3 70) s m ([.ref a_t] : List Value).toArray below meth c H locs 0 0 Q (F0 m 42 ls []) := by
    intro n42
    induction n42 with
    | zero => intro v1 v2 m_t_row_places m_t_row_beginnings m_t_row_counts m_t_row_ends m_t_row_comers m_t_row_leaders m_t_row_chains hf; rw [f_X5_nowhere_42] at hf; cases hf
    | succ n42 ih42 =>
      intro v1 v2 m_t_row_places m_t_row_beginnings m_t_row_counts m_t_row_ends m_t_row_comers m_t_row_leaders m_t_row_chains hf H locs ls hP hD hS hl
      rw [f_X5_nowhere_42] at hf
      refine lv_iload_n hx hb dX5_nowhere_42 rfl (lv_at hl 2 rfl) ?_
      refine lv_aload_n hx hb dX5_nowhere_43 rfl (lv_at hl 0 rfl) ?_
      refine gf_X5_34 X hP 0 rfl rfl dX5_nowhere_44 ?_
      refine gf_X5_147 X hP 3 rfl rfl dX5_nowhere_47 ?_
      refine lv_icmp_ge (tgt := 74) hx hb dX5_nowhere_50 (by decide) (fun c_50 => ?_) (fun c_50 => ?_)
      · have hf := if_t c_50 hf
        refine lv_iload_n hx hb dX5_nowhere_74 rfl (lv_at hl 1 rfl) ?_
        exact fin' _ _ _ _ _ _ _ _ hf 75 ls H locs dX5_nowhere_75 rfl hP hD hS
      · have hf := if_f c_50 hf
        refine lv_aload_n hx hb dX5_nowhere_53 rfl (lv_at hl 0 rfl) ?_
        refine gf_X5_34 X hP 0 rfl rfl dX5_nowhere_54 ?_
        refine gf_X5_141 X hP 3 rfl rfl dX5_nowhere_57 ?_
        refine lv_iload_n hx hb dX5_nowhere_60 rfl (lv_at hl 2 rfl) ?_
        obtain ⟨hi61, hf⟩ := ck_some hf
        refine r_iald X hP 7 rfl hi61 dX5_nowhere_61 ?_
        refine lv_if_ne (tgt := 68) hx hb dX5_nowhere_62 (by decide) (fun c_62 => ?_) (fun c_62 => ?_)
        · have hf := if_f c_62 hf
          refine lv_iinc (v := (v2 + (1 : Int32))) (lv' := [(2, .int (v2 + (1 : Int32))), (0, .ref a_t), (1, .int v1)]) hx hb dX5_nowhere_68 hl (k := 2) rfl rfl (by decide) rfl (fun ls hl => ?_)
          refine lv_goto (tgt := 42) hx hb dX5_nowhere_71 (by decide) ?_
          exact ih42 v1 (v2 + (1 : Int32)) m_t_row_places m_t_row_beginnings m_t_row_counts m_t_row_ends m_t_row_comers m_t_row_leaders m_t_row_chains hf H locs ls hP hD hS (lv_sub hl [1, 2, 0] rfl)
        · have hf := if_t c_62 hf
          refine lv_iinc (v := (v1 + (1 : Int32))) (lv' := [(1, .int (v1 + (1 : Int32))), (0, .ref a_t), (2, .int v2)]) hx hb dX5_nowhere_65 hl (k := 1) rfl rfl (by decide) rfl (fun ls hl => ?_)
          refine lv_iinc (v := (v2 + (1 : Int32))) (lv' := [(2, .int (v2 + (1 : Int32))), (1, .int (v1 + (1 : Int32))), (0, .ref a_t)]) hx hb dX5_nowhere_68 hl (k := 2) rfl rfl (by decide) rfl (fun ls hl => ?_)
          refine lv_goto (tgt := 42) hx hb dX5_nowhere_71 (by decide) ?_
          exact ih42 (v1 + (1 : Int32)) (v2 + (1 : Int32)) m_t_row_places m_t_row_beginnings m_t_row_counts m_t_row_ends m_t_row_comers m_t_row_leaders m_t_row_chains hf H locs ls hP hD hS (lv_sub hl [2, 1, 0] rfl)
  have hS : va_S A s.heap s.heap [] := va_S.rf
  obtain ⟨H, hH9⟩ : ∃ z, z = s.heap := ⟨_, rfl⟩
  obtain ⟨locs, hL9⟩ : ∃ z : List Loc, z = [] := ⟨_, rfl⟩
  rw [← hL9]
  rw [← hL9] at hS
  have hP : va_P E.1 vwCl (wd_X5_nowhere E a_t a_t_table a_t_table_text a_t_row a_t_row_counts a_t_row_ends a_t_row_comers a_t_row_leaders a_t_row_chains w_t_pad x_t_signs w_t_images w_t_pack w_t_chances w_t_writing w_t_guess w_t_table_weights w_t_table_sightFrom w_t_table_sightOut x_t_table_places x_t_table_beginnings x_t_table_courtCount x_t_table_allowed x_t_table_sights x_t_table_kept x_t_table_text x_t_row_places x_t_row_beginnings x_t_row_counts x_t_row_ends x_t_row_comers x_t_row_leaders x_t_row_chains) H := by rw [hH9]; exact hP
  have hS : va_S A s.heap H locs := by rw [hH9]; exact hS
  suffices hgoal : W p l e (rmm 3 70) s m ([.ref a_t] : List Value).toArray below meth c H locs 0 0 Q (F0 m 0 ls []) by rw [hH9] at hgoal; exact hgoal
  rw [f_X5_nowhere] at hf
  refine lv_aload_n hx hb dX5_nowhere_0 rfl (lv_at hl 0 rfl) ?_
  refine gf_X5_20 X hP 0 rfl rfl dX5_nowhere_1 ?_
  obtain ⟨r4, hc4, hf⟩ := bd_some hf
  refine cV_I X hA hP hD hS hl.1 (c_X3_isWhole l E a_t_table a_t_table_text w_t_table_weights w_t_table_sightFrom w_t_table_sightOut x_t_table_places x_t_table_beginnings x_t_table_courtCount x_t_table_allowed x_t_table_sights x_t_table_kept x_t_table_text r4 hc4) 0 k_376 mw_X3_isWhole hd_X3_isWhole ⟨Nat.le_of_ble_eq_true rfl, Nat.le_of_ble_eq_true rfl⟩ [1, 2] [0, 3, 4, 5, 6, 7, 8] [0, 7, 8, 1, 2, 3, 4, 5, 6] rfl rfl (wr := [0, 3, 4, 5, 6, 7, 8].filterMap (fun i => (wd_X5_nowhere E a_t a_t_table a_t_table_text a_t_row a_t_row_counts a_t_row_ends a_t_row_comers a_t_row_leaders a_t_row_chains w_t_pad x_t_signs w_t_images w_t_pack w_t_chances w_t_writing w_t_guess w_t_table_weights w_t_table_sightFrom w_t_table_sightOut x_t_table_places x_t_table_beginnings x_t_table_courtCount x_t_table_allowed x_t_table_sights x_t_table_kept x_t_table_text x_t_row_places x_t_row_beginnings x_t_row_counts x_t_row_ends x_t_row_comers x_t_row_leaders x_t_row_chains)[i]?)) rfl rfl rfl 3 0 rfl rfl rfl rfl rfl (Nat.le_of_ble_eq_true rfl) rfl (ws' := (wd_X5_nowhere E a_t a_t_table a_t_table_text a_t_row a_t_row_counts a_t_row_ends a_t_row_comers a_t_row_leaders a_t_row_chains w_t_pad x_t_signs w_t_images w_t_pack w_t_chances w_t_writing w_t_guess w_t_table_weights w_t_table_sightFrom w_t_table_sightOut x_t_table_places x_t_table_beginnings x_t_table_courtCount x_t_table_allowed x_t_table_sights x_t_table_kept x_t_table_text x_t_row_places x_t_row_beginnings x_t_row_counts x_t_row_ends x_t_row_comers x_t_row_leaders x_t_row_chains)) rfl ⟨Nat.le_of_ble_eq_true rfl, Nat.le_of_ble_eq_true rfl⟩ dX5_nowhere_4 (fun H locs hP hD hS => ?_)
  refine lv_if_ne (tgt := 13) hx hb dX5_nowhere_7 (by decide) (fun c_7 => ?_) (fun c_7 => ?_)
  · have hf := if_f c_7 hf
    refine lv_aload_n hx hb dX5_nowhere_13 rfl (lv_at hl 0 rfl) ?_
    refine gf_X5_34 X hP 0 rfl rfl dX5_nowhere_14 ?_
    refine lv_aload_n hx hb dX5_nowhere_17 rfl (lv_at hl 0 rfl) ?_
    refine gf_X5_20 X hP 0 rfl rfl dX5_nowhere_18 ?_
    refine gf_X5_93 X hP 1 rfl rfl dX5_nowhere_21 ?_
    refine lv_aload_n hx hb dX5_nowhere_24 rfl (lv_at hl 0 rfl) ?_
    refine gf_X5_20 X hP 0 rfl rfl dX5_nowhere_25 ?_
    refine lv_aload_n hx hb dX5_nowhere_28 rfl (lv_at hl 0 rfl) ?_
    refine gf_X5_20 X hP 0 rfl rfl dX5_nowhere_29 ?_
    refine gf_X5_77 X hP 1 rfl rfl dX5_nowhere_32 ?_
    obtain ⟨r35, hc35, hf⟩ := bd_some hf
    refine cV_V X hA hP hD hS hl.1 (c_X2_follow l E a_t_row a_t_table_text a_t_table a_t_row_counts a_t_row_ends a_t_row_comers a_t_row_leaders a_t_row_chains x_t_row_places x_t_row_beginnings x_t_table_text (.ref a_t_table_text) w_t_table_weights w_t_table_sightFrom w_t_table_sightOut x_t_table_places x_t_table_beginnings x_t_table_courtCount x_t_table_allowed x_t_table_sights x_t_table_kept x_t_row_counts x_t_row_ends x_t_row_comers x_t_row_leaders x_t_row_chains x_t_table_courtCount r35 hc35) 3 k_384 mw_X2_follow hd_X2_follow ⟨Nat.le_of_ble_eq_true rfl, Nat.le_of_ble_eq_true rfl⟩ [3, 2, 1, 4, 5, 6, 7, 8] [0] [0, 3, 2, 1, 4, 5, 6, 7, 8] rfl rfl (wr := [0].filterMap (fun i => (wd_X5_nowhere E a_t a_t_table a_t_table_text a_t_row a_t_row_counts a_t_row_ends a_t_row_comers a_t_row_leaders a_t_row_chains w_t_pad x_t_signs w_t_images w_t_pack w_t_chances w_t_writing w_t_guess w_t_table_weights w_t_table_sightFrom w_t_table_sightOut x_t_table_places x_t_table_beginnings x_t_table_courtCount x_t_table_allowed x_t_table_sights x_t_table_kept x_t_table_text x_t_row_places x_t_row_beginnings x_t_row_counts x_t_row_ends x_t_row_comers x_t_row_leaders x_t_row_chains)[i]?)) rfl rfl rfl 2 0 rfl rfl rfl rfl rfl (Nat.le_of_ble_eq_true rfl) rfl (ws' := (wd_X5_nowhere E a_t a_t_table a_t_table_text a_t_row a_t_row_counts a_t_row_ends a_t_row_comers a_t_row_leaders a_t_row_chains w_t_pad x_t_signs w_t_images w_t_pack w_t_chances w_t_writing w_t_guess w_t_table_weights w_t_table_sightFrom w_t_table_sightOut x_t_table_places x_t_table_beginnings x_t_table_courtCount x_t_table_allowed x_t_table_sights x_t_table_kept x_t_table_text r35.1 r35.2.1 r35.2.2.1 r35.2.2.2.1 r35.2.2.2.2.1 r35.2.2.2.2.2.1 r35.2.2.2.2.2.2)) rfl ⟨Nat.le_of_ble_eq_true rfl, Nat.le_of_ble_eq_true rfl⟩ dX5_nowhere_35 (fun H locs hP hD hS => ?_)
    refine lv_iconst (v := (0 : Int32)) hx hb dX5_nowhere_38 (by decide) ?_
    refine lv_istore_n (lv' := [(1, .int (0 : Int32)), (0, .ref a_t)]) hx hb dX5_nowhere_39 rfl hl (by decide) rfl (fun ls hl => ?_)
    refine lv_iconst (v := (0 : Int32)) hx hb dX5_nowhere_40 (by decide) ?_
    refine lv_istore_n (lv' := [(2, .int (0 : Int32)), (1, .int (0 : Int32)), (0, .ref a_t)]) hx hb dX5_nowhere_41 rfl hl (by decide) rfl (fun ls hl => ?_)
    exact L42 FU (0 : Int32) (0 : Int32) r35.1 r35.2.1 r35.2.2.1 r35.2.2.2.1 r35.2.2.2.2.1 r35.2.2.2.2.2.1 r35.2.2.2.2.2.2 hf H locs ls hP hD hS (lv_sub hl [2, 1, 0] rfl)
  · have hf := if_t c_7 hf
    refine lv_bipush (v := (-3 : Int32)) hx hb dX5_nowhere_10 (by decide) ?_
    exact fin' _ _ _ _ _ _ _ _ hf 12 ls H locs dX5_nowhere_12 rfl hP hD hS
abbrev wd_X5_minds (E : EN) (a_t : Nat) (a_t_table : Nat) (a_t_table_text : Nat) (a_t_row : Nat) (a_t_row_counts : Nat) (a_t_row_ends : Nat) (a_t_row_comers : Nat) (a_t_row_leaders : Nat) (a_t_row_chains : Nat) (w_t_pad : Value) (x_t_signs : Int32) (w_t_images : Value) (w_t_pack : Value) (w_t_chances : Value) (w_t_writing : Value) (w_t_guess : Value) (w_t_table_weights : Value) (w_t_table_sightFrom : Value) (w_t_table_sightOut : Value) (x_t_table_places : Int32) (x_t_table_beginnings : Int32) (x_t_table_courtCount : Int32) (x_t_table_allowed : Int32) (x_t_table_sights : Int32) (x_t_table_kept : Int32) (x_t_table_text : Nat → Int32) (x_t_row_places : Int32) (x_t_row_beginnings : Int32) (x_t_row_counts : Nat → Int32) (x_t_row_ends : Nat → Int32) (x_t_row_comers : Nat → Int32) (x_t_row_leaders : Nat → Int32) (x_t_row_chains : Nat → Int32) : va_W := [(a_t, e_O 5 [w_t_pad, .int x_t_signs, .ref a_t_table, w_t_images, w_t_pack, .ref a_t_row, w_t_chances, w_t_writing, w_t_guess]), (a_t_table, e_O 3 [.ref a_t_table_text, w_t_table_weights, w_t_table_sightFrom, w_t_table_sightOut, .int x_t_table_places, .int x_t_table_beginnings, .int x_t_table_courtCount, .int x_t_table_allowed, .int x_t_table_sights, .int x_t_table_kept]), (a_t_table_text, e_C E 40 x_t_table_text), (a_t_row, e_O 2 [.ref a_t_row_counts, .ref a_t_row_ends, .ref a_t_row_comers, .ref a_t_row_leaders, .ref a_t_row_chains, .int x_t_row_places, .int x_t_row_beginnings]), (a_t_row_counts, e_I E 40 x_t_row_counts), (a_t_row_ends, e_I E 40 x_t_row_ends), (a_t_row_comers, e_I E 40 x_t_row_comers), (a_t_row_leaders, e_I E 40 x_t_row_leaders), (a_t_row_chains, e_I E 40 x_t_row_chains)]
def f_X5_minds (p1 : Int32) (p2 : Int32) (x_t_table_places : Int32) (x_t_table_beginnings : Int32) (x_t_table_courtCount : Int32) (x_t_table_text : Nat → Int32) (x_t_row_places : Int32) (x_t_row_beginnings : Int32) (x_t_row_counts : Nat → Int32) (x_t_row_ends : Nat → Int32) (x_t_row_comers : Nat → Int32) (x_t_row_leaders : Nat → Int32) (x_t_row_chains : Nat → Int32) : Option (Int32 × Int32 × Int32 × (Nat → Int32) × (Nat → Int32) × (Nat → Int32) × (Nat → Int32) × (Nat → Int32)) :=
  Option.bind (f_X3_has p1 x_t_table_places) (fun r5 =>
  if r5 = 0 then
    some ((-1 : Int32), x_t_row_places, x_t_row_beginnings, x_t_row_counts, x_t_row_ends, x_t_row_comers, x_t_row_leaders, x_t_row_chains)
  else
    Option.bind (f_X5_isCount p2) (fun r12 =>
    if r12 = 0 then
      some ((-1 : Int32), x_t_row_places, x_t_row_beginnings, x_t_row_counts, x_t_row_ends, x_t_row_comers, x_t_row_leaders, x_t_row_chains)
    else
      Option.bind (f_X3_isWhole x_t_table_places x_t_table_text) (fun r24 =>
      if r24 = 0 then
        some ((-3 : Int32), x_t_row_places, x_t_row_beginnings, x_t_row_counts, x_t_row_ends, x_t_row_comers, x_t_row_leaders, x_t_row_chains)
      else
        Option.bind (f_X2_follow x_t_table_courtCount x_t_table_text x_t_table_places x_t_table_beginnings x_t_row_counts x_t_row_ends x_t_row_comers x_t_row_leaders x_t_row_chains) (fun r55 =>
        Option.bind (f_X2_mindsBy p1 p2 r55.1 r55.2.2.2.1 r55.2.2.2.2.1) (fun r64 =>
        some (r64, r55.1, r55.2.1, r55.2.2.1, r55.2.2.2.1, r55.2.2.2.2.1, r55.2.2.2.2.2.1, r55.2.2.2.2.2.2))))))
set_option maxHeartbeats 4000000 in
set_option maxRecDepth 100000 in
theorem c_X5_minds (l : Launch) (E : EN) (a_t a_t_table a_t_table_text a_t_row a_t_row_counts a_t_row_ends a_t_row_comers a_t_row_leaders a_t_row_chains : Nat) (w_t_pad : Value) (x_t_signs : Int32) (w_t_images : Value) (w_t_pack : Value) (w_t_chances : Value) (w_t_writing : Value) (w_t_guess : Value) (w_t_table_weights : Value) (w_t_table_sightFrom : Value) (w_t_table_sightOut : Value) (x_t_table_places : Int32) (x_t_table_beginnings : Int32) (x_t_table_courtCount : Int32) (x_t_table_allowed : Int32) (x_t_table_sights : Int32) (x_t_table_kept : Int32) (x_t_table_text : Nat → Int32) (x_t_row_places : Int32) (x_t_row_beginnings : Int32) (x_t_row_counts : Nat → Int32) (x_t_row_ends : Nat → Int32) (x_t_row_comers : Nat → Int32) (x_t_row_leaders : Nat → Int32) (x_t_row_chains : Nat → Int32) (p1 : Int32) (p2 : Int32) (res : Int32 × Int32 × Int32 × (Nat → Int32) × (Nat → Int32) × (Nat → Int32) × (Nat → Int32) × (Nat → Int32)) (hf : f_X5_minds p1 p2 x_t_table_places x_t_table_beginnings x_t_table_courtCount x_t_table_text x_t_row_places x_t_row_beginnings x_t_row_counts x_t_row_ends x_t_row_comers x_t_row_leaders x_t_row_chains = some res) : CtI l yX5_minds cX5_minds 3 .int 3 70 E [.ref a_t, .int p1, .int p2] (wd_X5_minds E a_t a_t_table a_t_table_text a_t_row a_t_row_counts a_t_row_ends a_t_row_comers a_t_row_leaders a_t_row_chains w_t_pad x_t_signs w_t_images w_t_pack w_t_chances w_t_writing w_t_guess w_t_table_weights w_t_table_sightFrom w_t_table_sightOut x_t_table_places x_t_table_beginnings x_t_table_courtCount x_t_table_allowed x_t_table_sights x_t_table_kept x_t_table_text x_t_row_places x_t_row_beginnings x_t_row_counts x_t_row_ends x_t_row_comers x_t_row_leaders x_t_row_chains) (wd_X5_minds E a_t a_t_table a_t_table_text a_t_row a_t_row_counts a_t_row_ends a_t_row_comers a_t_row_leaders a_t_row_chains w_t_pad x_t_signs w_t_images w_t_pack w_t_chances w_t_writing w_t_guess w_t_table_weights w_t_table_sightFrom w_t_table_sightOut x_t_table_places x_t_table_beginnings x_t_table_courtCount x_t_table_allowed x_t_table_sights x_t_table_kept x_t_table_text res.2.1 res.2.2.1 res.2.2.2.1 res.2.2.2.2.1 res.2.2.2.2.2.1 res.2.2.2.2.2.2.1 res.2.2.2.2.2.2.2) res.1 := by
  refine CtI.of RX5 (by decide) rfl (Nat.le_of_ble_eq_true rfl) ?_
  intro p e s m below meth c A Q ls X hA hP hD hl fin
  have hx := X.1
  have hb := X.2.1
  have hl : lv_has ls 3 [(0, .ref a_t), (1, .int p1), (2, .int p2)] := hl
  have fin' : ∀ (fr0 : Int32) (fr1 : Int32) (fr2 : Int32) (fr3 : (Nat → Int32)) (fr4 : (Nat → Int32)) (fr5 : (Nat → Int32)) (fr6 : (Nat → Int32)) (fr7 : (Nat → Int32)), some (fr0, fr1, fr2, fr3, fr4, fr5, fr6, fr7) = some res → ∀ (pc : Nat) (ls : Array Slot) (H : Heap) (locs : List Loc), decode cX5_minds pc = .ok (.ireturn, 1) → narrow .int (.int fr0) = .int fr0 → va_P E.1 vwCl (wd_X5_minds E a_t a_t_table a_t_table_text a_t_row a_t_row_counts a_t_row_ends a_t_row_comers a_t_row_leaders a_t_row_chains w_t_pad x_t_signs w_t_images w_t_pack w_t_chances w_t_writing w_t_guess w_t_table_weights w_t_table_sightFrom w_t_table_sightOut x_t_table_places x_t_table_beginnings x_t_table_courtCount x_t_table_allowed x_t_table_sights x_t_table_kept x_t_table_text fr1 fr2 fr3 fr4 fr5 fr6 fr7) H → va_D A (wd_X5_minds E a_t a_t_table a_t_table_text a_t_row a_t_row_counts a_t_row_ends a_t_row_comers a_t_row_leaders a_t_row_chains w_t_pad x_t_signs w_t_images w_t_pack w_t_chances w_t_writing w_t_guess w_t_table_weights w_t_table_sightFrom w_t_table_sightOut x_t_table_places x_t_table_beginnings x_t_table_courtCount x_t_table_allowed x_t_table_sights x_t_table_kept x_t_table_text fr1 fr2 fr3 fr4 fr5 fr6 fr7) → va_S A s.heap H locs → W p l e (rmm 3 70) s m ([.ref a_t, .int p1, .int p2] : List Value).toArray below meth c H locs 0 0 Q (F0 m pc ls [.int fr0]) := by
    intro fr0 fr1 fr2 fr3 fr4 fr5 fr6 fr7 he
    cases he
    exact fin
  have hS : va_S A s.heap s.heap [] := va_S.rf
  obtain ⟨H, hH9⟩ : ∃ z, z = s.heap := ⟨_, rfl⟩
  obtain ⟨locs, hL9⟩ : ∃ z : List Loc, z = [] := ⟨_, rfl⟩
  rw [← hL9]
  rw [← hL9] at hS
  have hP : va_P E.1 vwCl (wd_X5_minds E a_t a_t_table a_t_table_text a_t_row a_t_row_counts a_t_row_ends a_t_row_comers a_t_row_leaders a_t_row_chains w_t_pad x_t_signs w_t_images w_t_pack w_t_chances w_t_writing w_t_guess w_t_table_weights w_t_table_sightFrom w_t_table_sightOut x_t_table_places x_t_table_beginnings x_t_table_courtCount x_t_table_allowed x_t_table_sights x_t_table_kept x_t_table_text x_t_row_places x_t_row_beginnings x_t_row_counts x_t_row_ends x_t_row_comers x_t_row_leaders x_t_row_chains) H := by rw [hH9]; exact hP
  have hS : va_S A s.heap H locs := by rw [hH9]; exact hS
  suffices hgoal : W p l e (rmm 3 70) s m ([.ref a_t, .int p1, .int p2] : List Value).toArray below meth c H locs 0 0 Q (F0 m 0 ls []) by rw [hH9] at hgoal; exact hgoal
  rw [f_X5_minds] at hf
  refine lv_aload_n hx hb dX5_minds_0 rfl (lv_at hl 0 rfl) ?_
  refine gf_X5_20 X hP 0 rfl rfl dX5_minds_1 ?_
  refine lv_iload_n hx hb dX5_minds_4 rfl (lv_at hl 1 rfl) ?_
  obtain ⟨r5, hc5, hf⟩ := bd_some hf
  refine cV_I X hA hP hD hS hl.1 (c_X3_has l E a_t_table (.ref a_t_table_text) w_t_table_weights w_t_table_sightFrom w_t_table_sightOut x_t_table_places x_t_table_beginnings x_t_table_courtCount x_t_table_allowed x_t_table_sights x_t_table_kept p1 r5 hc5) 1 k_368 mw_X3_has hd_X3_has ⟨Nat.le_of_ble_eq_true rfl, Nat.le_of_ble_eq_true rfl⟩ [1] [0, 2, 3, 4, 5, 6, 7, 8] [0, 8, 1, 2, 3, 4, 5, 6, 7] rfl rfl (wr := [0, 2, 3, 4, 5, 6, 7, 8].filterMap (fun i => (wd_X5_minds E a_t a_t_table a_t_table_text a_t_row a_t_row_counts a_t_row_ends a_t_row_comers a_t_row_leaders a_t_row_chains w_t_pad x_t_signs w_t_images w_t_pack w_t_chances w_t_writing w_t_guess w_t_table_weights w_t_table_sightFrom w_t_table_sightOut x_t_table_places x_t_table_beginnings x_t_table_courtCount x_t_table_allowed x_t_table_sights x_t_table_kept x_t_table_text x_t_row_places x_t_row_beginnings x_t_row_counts x_t_row_ends x_t_row_comers x_t_row_leaders x_t_row_chains)[i]?)) rfl rfl rfl 3 0 rfl rfl rfl rfl rfl (Nat.le_of_ble_eq_true rfl) rfl (ws' := (wd_X5_minds E a_t a_t_table a_t_table_text a_t_row a_t_row_counts a_t_row_ends a_t_row_comers a_t_row_leaders a_t_row_chains w_t_pad x_t_signs w_t_images w_t_pack w_t_chances w_t_writing w_t_guess w_t_table_weights w_t_table_sightFrom w_t_table_sightOut x_t_table_places x_t_table_beginnings x_t_table_courtCount x_t_table_allowed x_t_table_sights x_t_table_kept x_t_table_text x_t_row_places x_t_row_beginnings x_t_row_counts x_t_row_ends x_t_row_comers x_t_row_leaders x_t_row_chains)) rfl ⟨Nat.le_of_ble_eq_true rfl, Nat.le_of_ble_eq_true rfl⟩ dX5_minds_5 (fun H locs hP hD hS => ?_)
  refine lv_if_eq (tgt := 18) hx hb dX5_minds_8 (by decide) (fun c_8 => ?_) (fun c_8 => ?_)
  · have hf := if_t c_8 hf
    refine lv_iconst (v := (-1 : Int32)) hx hb dX5_minds_18 (by decide) ?_
    exact fin' _ _ _ _ _ _ _ _ hf 19 ls H locs dX5_minds_19 rfl hP hD hS
  · have hf := if_f c_8 hf
    refine lv_iload_n hx hb dX5_minds_11 rfl (lv_at hl 2 rfl) ?_
    obtain ⟨r12, hc12, hf⟩ := bd_some hf
    refine cS_I X hA hP hD hS hl.1 (c_X5_isCount l E p2 r12 hc12) 1 k_349 mw_X5_isCount hd_X5_isCount ⟨Nat.le_of_ble_eq_true rfl, Nat.le_of_ble_eq_true rfl⟩ [] [0, 1, 2, 3, 4, 5, 6, 7, 8] [0, 1, 2, 3, 4, 5, 6, 7, 8] rfl rfl (wr := [0, 1, 2, 3, 4, 5, 6, 7, 8].filterMap (fun i => (wd_X5_minds E a_t a_t_table a_t_table_text a_t_row a_t_row_counts a_t_row_ends a_t_row_comers a_t_row_leaders a_t_row_chains w_t_pad x_t_signs w_t_images w_t_pack w_t_chances w_t_writing w_t_guess w_t_table_weights w_t_table_sightFrom w_t_table_sightOut x_t_table_places x_t_table_beginnings x_t_table_courtCount x_t_table_allowed x_t_table_sights x_t_table_kept x_t_table_text x_t_row_places x_t_row_beginnings x_t_row_counts x_t_row_ends x_t_row_comers x_t_row_leaders x_t_row_chains)[i]?)) rfl rfl rfl rfl rfl (Nat.le_of_ble_eq_true rfl) rfl (ws' := (wd_X5_minds E a_t a_t_table a_t_table_text a_t_row a_t_row_counts a_t_row_ends a_t_row_comers a_t_row_leaders a_t_row_chains w_t_pad x_t_signs w_t_images w_t_pack w_t_chances w_t_writing w_t_guess w_t_table_weights w_t_table_sightFrom w_t_table_sightOut x_t_table_places x_t_table_beginnings x_t_table_courtCount x_t_table_allowed x_t_table_sights x_t_table_kept x_t_table_text x_t_row_places x_t_row_beginnings x_t_row_counts x_t_row_ends x_t_row_comers x_t_row_leaders x_t_row_chains)) rfl ⟨Nat.le_of_ble_eq_true rfl, Nat.le_of_ble_eq_true rfl⟩ dX5_minds_12 (fun H locs hP hD hS => ?_)
    refine lv_if_ne (tgt := 20) hx hb dX5_minds_15 (by decide) (fun c_15 => ?_) (fun c_15 => ?_)
    · have hf := if_f c_15 hf
      refine lv_aload_n hx hb dX5_minds_20 rfl (lv_at hl 0 rfl) ?_
      refine gf_X5_20 X hP 0 rfl rfl dX5_minds_21 ?_
      obtain ⟨r24, hc24, hf⟩ := bd_some hf
      refine cV_I X hA hP hD hS hl.1 (c_X3_isWhole l E a_t_table a_t_table_text w_t_table_weights w_t_table_sightFrom w_t_table_sightOut x_t_table_places x_t_table_beginnings x_t_table_courtCount x_t_table_allowed x_t_table_sights x_t_table_kept x_t_table_text r24 hc24) 0 k_376 mw_X3_isWhole hd_X3_isWhole ⟨Nat.le_of_ble_eq_true rfl, Nat.le_of_ble_eq_true rfl⟩ [1, 2] [0, 3, 4, 5, 6, 7, 8] [0, 7, 8, 1, 2, 3, 4, 5, 6] rfl rfl (wr := [0, 3, 4, 5, 6, 7, 8].filterMap (fun i => (wd_X5_minds E a_t a_t_table a_t_table_text a_t_row a_t_row_counts a_t_row_ends a_t_row_comers a_t_row_leaders a_t_row_chains w_t_pad x_t_signs w_t_images w_t_pack w_t_chances w_t_writing w_t_guess w_t_table_weights w_t_table_sightFrom w_t_table_sightOut x_t_table_places x_t_table_beginnings x_t_table_courtCount x_t_table_allowed x_t_table_sights x_t_table_kept x_t_table_text x_t_row_places x_t_row_beginnings x_t_row_counts x_t_row_ends x_t_row_comers x_t_row_leaders x_t_row_chains)[i]?)) rfl rfl rfl 3 0 rfl rfl rfl rfl rfl (Nat.le_of_ble_eq_true rfl) rfl (ws' := (wd_X5_minds E a_t a_t_table a_t_table_text a_t_row a_t_row_counts a_t_row_ends a_t_row_comers a_t_row_leaders a_t_row_chains w_t_pad x_t_signs w_t_images w_t_pack w_t_chances w_t_writing w_t_guess w_t_table_weights w_t_table_sightFrom w_t_table_sightOut x_t_table_places x_t_table_beginnings x_t_table_courtCount x_t_table_allowed x_t_table_sights x_t_table_kept x_t_table_text x_t_row_places x_t_row_beginnings x_t_row_counts x_t_row_ends x_t_row_comers x_t_row_leaders x_t_row_chains)) rfl ⟨Nat.le_of_ble_eq_true rfl, Nat.le_of_ble_eq_true rfl⟩ dX5_minds_24 (fun H locs hP hD hS => ?_)
      refine lv_if_ne (tgt := 33) hx hb dX5_minds_27 (by decide) (fun c_27 => ?_) (fun c_27 => ?_)
      · have hf := if_f c_27 hf
        refine lv_aload_n hx hb dX5_minds_33 rfl (lv_at hl 0 rfl) ?_
        refine gf_X5_34 X hP 0 rfl rfl dX5_minds_34 ?_
        refine lv_aload_n hx hb dX5_minds_37 rfl (lv_at hl 0 rfl) ?_
        refine gf_X5_20 X hP 0 rfl rfl dX5_minds_38 ?_
        refine gf_X5_93 X hP 1 rfl rfl dX5_minds_41 ?_
        refine lv_aload_n hx hb dX5_minds_44 rfl (lv_at hl 0 rfl) ?_
        refine gf_X5_20 X hP 0 rfl rfl dX5_minds_45 ?_
        refine lv_aload_n hx hb dX5_minds_48 rfl (lv_at hl 0 rfl) ?_
        refine gf_X5_20 X hP 0 rfl rfl dX5_minds_49 ?_
        refine gf_X5_77 X hP 1 rfl rfl dX5_minds_52 ?_
        obtain ⟨r55, hc55, hf⟩ := bd_some hf
        refine cV_V X hA hP hD hS hl.1 (c_X2_follow l E a_t_row a_t_table_text a_t_table a_t_row_counts a_t_row_ends a_t_row_comers a_t_row_leaders a_t_row_chains x_t_row_places x_t_row_beginnings x_t_table_text (.ref a_t_table_text) w_t_table_weights w_t_table_sightFrom w_t_table_sightOut x_t_table_places x_t_table_beginnings x_t_table_courtCount x_t_table_allowed x_t_table_sights x_t_table_kept x_t_row_counts x_t_row_ends x_t_row_comers x_t_row_leaders x_t_row_chains x_t_table_courtCount r55 hc55) 3 k_384 mw_X2_follow hd_X2_follow ⟨Nat.le_of_ble_eq_true rfl, Nat.le_of_ble_eq_true rfl⟩ [3, 2, 1, 4, 5, 6, 7, 8] [0] [0, 3, 2, 1, 4, 5, 6, 7, 8] rfl rfl (wr := [0].filterMap (fun i => (wd_X5_minds E a_t a_t_table a_t_table_text a_t_row a_t_row_counts a_t_row_ends a_t_row_comers a_t_row_leaders a_t_row_chains w_t_pad x_t_signs w_t_images w_t_pack w_t_chances w_t_writing w_t_guess w_t_table_weights w_t_table_sightFrom w_t_table_sightOut x_t_table_places x_t_table_beginnings x_t_table_courtCount x_t_table_allowed x_t_table_sights x_t_table_kept x_t_table_text x_t_row_places x_t_row_beginnings x_t_row_counts x_t_row_ends x_t_row_comers x_t_row_leaders x_t_row_chains)[i]?)) rfl rfl rfl 2 0 rfl rfl rfl rfl rfl (Nat.le_of_ble_eq_true rfl) rfl (ws' := (wd_X5_minds E a_t a_t_table a_t_table_text a_t_row a_t_row_counts a_t_row_ends a_t_row_comers a_t_row_leaders a_t_row_chains w_t_pad x_t_signs w_t_images w_t_pack w_t_chances w_t_writing w_t_guess w_t_table_weights w_t_table_sightFrom w_t_table_sightOut x_t_table_places x_t_table_beginnings x_t_table_courtCount x_t_table_allowed x_t_table_sights x_t_table_kept x_t_table_text r55.1 r55.2.1 r55.2.2.1 r55.2.2.2.1 r55.2.2.2.2.1 r55.2.2.2.2.2.1 r55.2.2.2.2.2.2)) rfl ⟨Nat.le_of_ble_eq_true rfl, Nat.le_of_ble_eq_true rfl⟩ dX5_minds_55 (fun H locs hP hD hS => ?_)
        refine lv_aload_n hx hb dX5_minds_58 rfl (lv_at hl 0 rfl) ?_
        refine gf_X5_34 X hP 0 rfl rfl dX5_minds_59 ?_
        refine lv_iload_n hx hb dX5_minds_62 rfl (lv_at hl 1 rfl) ?_
        refine lv_iload_n hx hb dX5_minds_63 rfl (lv_at hl 2 rfl) ?_
        obtain ⟨r64, hc64, hf⟩ := bd_some hf
        refine cV_I X hA hP hD hS hl.1 (c_X2_mindsBy l E a_t_row a_t_row_ends a_t_row_comers (.ref a_t_row_counts) (.ref a_t_row_leaders) (.ref a_t_row_chains) r55.1 r55.2.1 r55.2.2.2.1 r55.2.2.2.2.1 p1 p2 r64 hc64) 2 k_452 mw_X2_mindsBy hd_X2_mindsBy ⟨Nat.le_of_ble_eq_true rfl, Nat.le_of_ble_eq_true rfl⟩ [3, 5, 6] [0, 1, 2, 4, 7, 8] [0, 1, 2, 6, 3, 7, 8, 4, 5] rfl rfl (wr := [0, 1, 2, 4, 7, 8].filterMap (fun i => (wd_X5_minds E a_t a_t_table a_t_table_text a_t_row a_t_row_counts a_t_row_ends a_t_row_comers a_t_row_leaders a_t_row_chains w_t_pad x_t_signs w_t_images w_t_pack w_t_chances w_t_writing w_t_guess w_t_table_weights w_t_table_sightFrom w_t_table_sightOut x_t_table_places x_t_table_beginnings x_t_table_courtCount x_t_table_allowed x_t_table_sights x_t_table_kept x_t_table_text r55.1 r55.2.1 r55.2.2.1 r55.2.2.2.1 r55.2.2.2.2.1 r55.2.2.2.2.2.1 r55.2.2.2.2.2.2)[i]?)) rfl rfl rfl 2 0 rfl rfl rfl rfl rfl (Nat.le_of_ble_eq_true rfl) rfl (ws' := (wd_X5_minds E a_t a_t_table a_t_table_text a_t_row a_t_row_counts a_t_row_ends a_t_row_comers a_t_row_leaders a_t_row_chains w_t_pad x_t_signs w_t_images w_t_pack w_t_chances w_t_writing w_t_guess w_t_table_weights w_t_table_sightFrom w_t_table_sightOut x_t_table_places x_t_table_beginnings x_t_table_courtCount x_t_table_allowed x_t_table_sights x_t_table_kept x_t_table_text r55.1 r55.2.1 r55.2.2.1 r55.2.2.2.1 r55.2.2.2.2.1 r55.2.2.2.2.2.1 r55.2.2.2.2.2.2)) rfl ⟨Nat.le_of_ble_eq_true rfl, Nat.le_of_ble_eq_true rfl⟩ dX5_minds_64 (fun H locs hP hD hS => ?_)
        exact fin' _ _ _ _ _ _ _ _ hf 67 ls H locs dX5_minds_67 rfl hP hD hS
      · have hf := if_t c_27 hf
        refine lv_bipush (v := (-3 : Int32)) hx hb dX5_minds_30 (by decide) ?_
        exact fin' _ _ _ _ _ _ _ _ hf 32 ls H locs dX5_minds_32 rfl hP hD hS
    · have hf := if_t c_15 hf
      refine lv_iconst (v := (-1 : Int32)) hx hb dX5_minds_18 (by decide) ?_
      exact fin' _ _ _ _ _ _ _ _ hf 19 ls H locs dX5_minds_19 rfl hP hD hS
abbrev wd_X5_one (E : EN) (a_t : Nat) (a_t_table : Nat) (a_t_table_text : Nat) (a_t_row : Nat) (a_t_row_counts : Nat) (a_t_row_ends : Nat) (a_t_row_comers : Nat) (a_t_row_leaders : Nat) (a_t_row_chains : Nat) (w_t_pad : Value) (x_t_signs : Int32) (w_t_images : Value) (w_t_pack : Value) (w_t_chances : Value) (w_t_writing : Value) (w_t_guess : Value) (w_t_table_weights : Value) (w_t_table_sightFrom : Value) (w_t_table_sightOut : Value) (x_t_table_places : Int32) (x_t_table_beginnings : Int32) (x_t_table_courtCount : Int32) (x_t_table_allowed : Int32) (x_t_table_sights : Int32) (x_t_table_kept : Int32) (x_t_table_text : Nat → Int32) (x_t_row_places : Int32) (x_t_row_beginnings : Int32) (x_t_row_counts : Nat → Int32) (x_t_row_ends : Nat → Int32) (x_t_row_comers : Nat → Int32) (x_t_row_leaders : Nat → Int32) (x_t_row_chains : Nat → Int32) : va_W := [(a_t, e_O 5 [w_t_pad, .int x_t_signs, .ref a_t_table, w_t_images, w_t_pack, .ref a_t_row, w_t_chances, w_t_writing, w_t_guess]), (a_t_table, e_O 3 [.ref a_t_table_text, w_t_table_weights, w_t_table_sightFrom, w_t_table_sightOut, .int x_t_table_places, .int x_t_table_beginnings, .int x_t_table_courtCount, .int x_t_table_allowed, .int x_t_table_sights, .int x_t_table_kept]), (a_t_table_text, e_C E 40 x_t_table_text), (a_t_row, e_O 2 [.ref a_t_row_counts, .ref a_t_row_ends, .ref a_t_row_comers, .ref a_t_row_leaders, .ref a_t_row_chains, .int x_t_row_places, .int x_t_row_beginnings]), (a_t_row_counts, e_I E 40 x_t_row_counts), (a_t_row_ends, e_I E 40 x_t_row_ends), (a_t_row_comers, e_I E 40 x_t_row_comers), (a_t_row_leaders, e_I E 40 x_t_row_leaders), (a_t_row_chains, e_I E 40 x_t_row_chains)]
def f_X5_one_77 (K_62 : Int32 → Int32 → Int32 → Int32 → Int32 → Int32 → (Nat → Int32) → (Nat → Int32) → (Nat → Int32) → (Nat → Int32) → (Nat → Int32) → Option (Int32 × Int32 × Int32 × (Nat → Int32) × (Nat → Int32) × (Nat → Int32) × (Nat → Int32) × (Nat → Int32))) : Nat → Int32 → Int32 → Int32 → Int32 → Int32 → Int32 → Int32 → (Nat → Int32) → (Nat → Int32) → (Nat → Int32) → (Nat → Int32) → (Nat → Int32) → Option (Int32 × Int32 × Int32 × (Nat → Int32) × (Nat → Int32) × (Nat → Int32) × (Nat → Int32) × (Nat → Int32))
  | 0, _, _, _, _, _, _, _, _, _, _, _, _ => none
  | n_ + 1, v2, v3, v4, v5, v6, m_t_row_places, m_t_row_beginnings, m_t_row_counts, m_t_row_ends, m_t_row_comers, m_t_row_leaders, m_t_row_chains =>
    if (10 : Int32) < v6 then
      K_62 v2 v3 v4 (v5 + (1 : Int32)) m_t_row_places m_t_row_beginnings m_t_row_counts m_t_row_ends m_t_row_comers m_t_row_leaders m_t_row_chains
    else
      Option.bind (f_X2_mindsBy v5 v6 m_t_row_places m_t_row_ends m_t_row_comers) (fun r92 =>
      if r92 ≤ v2 then
        f_X5_one_77 K_62 n_ v2 v3 v4 v5 (v6 + (1 : Int32)) m_t_row_places m_t_row_beginnings m_t_row_counts m_t_row_ends m_t_row_comers m_t_row_leaders m_t_row_chains
      else
        f_X5_one_77 K_62 n_ r92 v5 v6 v5 (v6 + (1 : Int32)) m_t_row_places m_t_row_beginnings m_t_row_counts m_t_row_ends m_t_row_comers m_t_row_leaders m_t_row_chains)
def f_X5_one_62 (p1 : Int32)  : Nat → Int32 → Int32 → Int32 → Int32 → Int32 → Int32 → (Nat → Int32) → (Nat → Int32) → (Nat → Int32) → (Nat → Int32) → (Nat → Int32) → Option (Int32 × Int32 × Int32 × (Nat → Int32) × (Nat → Int32) × (Nat → Int32) × (Nat → Int32) × (Nat → Int32))
  | 0, _, _, _, _, _, _, _, _, _, _, _ => none
  | n_ + 1, v2, v3, v4, v5, m_t_row_places, m_t_row_beginnings, m_t_row_counts, m_t_row_ends, m_t_row_comers, m_t_row_leaders, m_t_row_chains =>
    if m_t_row_places ≤ v5 then
      if p1 = 0 then
        some (v3, m_t_row_places, m_t_row_beginnings, m_t_row_counts, m_t_row_ends, m_t_row_comers, m_t_row_leaders, m_t_row_chains)
      else
        if p1 = (1 : Int32) then
          some (v4, m_t_row_places, m_t_row_beginnings, m_t_row_counts, m_t_row_ends, m_t_row_comers, m_t_row_leaders, m_t_row_chains)
        else
          some (v2, m_t_row_places, m_t_row_beginnings, m_t_row_counts, m_t_row_ends, m_t_row_comers, m_t_row_leaders, m_t_row_chains)
    else
      f_X5_one_77 (f_X5_one_62 p1 n_) FU v2 v3 v4 v5 (1 : Int32) m_t_row_places m_t_row_beginnings m_t_row_counts m_t_row_ends m_t_row_comers m_t_row_leaders m_t_row_chains
def f_X5_one (p1 : Int32) (x_t_table_places : Int32) (x_t_table_beginnings : Int32) (x_t_table_courtCount : Int32) (x_t_table_text : Nat → Int32) (x_t_row_places : Int32) (x_t_row_beginnings : Int32) (x_t_row_counts : Nat → Int32) (x_t_row_ends : Nat → Int32) (x_t_row_comers : Nat → Int32) (x_t_row_leaders : Nat → Int32) (x_t_row_chains : Nat → Int32) : Option (Int32 × Int32 × Int32 × (Nat → Int32) × (Nat → Int32) × (Nat → Int32) × (Nat → Int32) × (Nat → Int32)) :=
  if p1 < 0 then
    some ((-2 : Int32), x_t_row_places, x_t_row_beginnings, x_t_row_counts, x_t_row_ends, x_t_row_comers, x_t_row_leaders, x_t_row_chains)
  else
    if p1 ≤ (2 : Int32) then
      Option.bind (f_X3_isWhole x_t_table_places x_t_table_text) (fun r16 =>
      if r16 = 0 then
        some ((-3 : Int32), x_t_row_places, x_t_row_beginnings, x_t_row_counts, x_t_row_ends, x_t_row_comers, x_t_row_leaders, x_t_row_chains)
      else
        Option.bind (f_X2_follow x_t_table_courtCount x_t_table_text x_t_table_places x_t_table_beginnings x_t_row_counts x_t_row_ends x_t_row_comers x_t_row_leaders x_t_row_chains) (fun r47 =>
        f_X5_one_62 p1 FU (0 : Int32) (-6 : Int32) (-6 : Int32) (0 : Int32) r47.1 r47.2.1 r47.2.2.1 r47.2.2.2.1 r47.2.2.2.2.1 r47.2.2.2.2.2.1 r47.2.2.2.2.2.2))
    else
      some ((-2 : Int32), x_t_row_places, x_t_row_beginnings, x_t_row_counts, x_t_row_ends, x_t_row_comers, x_t_row_leaders, x_t_row_chains)
set_option maxHeartbeats 4000000 in
set_option maxRecDepth 100000 in
theorem c_X5_one (l : Launch) (E : EN) (a_t a_t_table a_t_table_text a_t_row a_t_row_counts a_t_row_ends a_t_row_comers a_t_row_leaders a_t_row_chains : Nat) (w_t_pad : Value) (x_t_signs : Int32) (w_t_images : Value) (w_t_pack : Value) (w_t_chances : Value) (w_t_writing : Value) (w_t_guess : Value) (w_t_table_weights : Value) (w_t_table_sightFrom : Value) (w_t_table_sightOut : Value) (x_t_table_places : Int32) (x_t_table_beginnings : Int32) (x_t_table_courtCount : Int32) (x_t_table_allowed : Int32) (x_t_table_sights : Int32) (x_t_table_kept : Int32) (x_t_table_text : Nat → Int32) (x_t_row_places : Int32) (x_t_row_beginnings : Int32) (x_t_row_counts : Nat → Int32) (x_t_row_ends : Nat → Int32) (x_t_row_comers : Nat → Int32) (x_t_row_leaders : Nat → Int32) (x_t_row_chains : Nat → Int32) (p1 : Int32) (res : Int32 × Int32 × Int32 × (Nat → Int32) × (Nat → Int32) × (Nat → Int32) × (Nat → Int32) × (Nat → Int32)) (hf : f_X5_one p1 x_t_table_places x_t_table_beginnings x_t_table_courtCount x_t_table_text x_t_row_places x_t_row_beginnings x_t_row_counts x_t_row_ends x_t_row_comers x_t_row_leaders x_t_row_chains = some res) : CtI l yX5_one cX5_one 8 .int 3 70 E [.ref a_t, .int p1] (wd_X5_one E a_t a_t_table a_t_table_text a_t_row a_t_row_counts a_t_row_ends a_t_row_comers a_t_row_leaders a_t_row_chains w_t_pad x_t_signs w_t_images w_t_pack w_t_chances w_t_writing w_t_guess w_t_table_weights w_t_table_sightFrom w_t_table_sightOut x_t_table_places x_t_table_beginnings x_t_table_courtCount x_t_table_allowed x_t_table_sights x_t_table_kept x_t_table_text x_t_row_places x_t_row_beginnings x_t_row_counts x_t_row_ends x_t_row_comers x_t_row_leaders x_t_row_chains) (wd_X5_one E a_t a_t_table a_t_table_text a_t_row a_t_row_counts a_t_row_ends a_t_row_comers a_t_row_leaders a_t_row_chains w_t_pad x_t_signs w_t_images w_t_pack w_t_chances w_t_writing w_t_guess w_t_table_weights w_t_table_sightFrom w_t_table_sightOut x_t_table_places x_t_table_beginnings x_t_table_courtCount x_t_table_allowed x_t_table_sights x_t_table_kept x_t_table_text res.2.1 res.2.2.1 res.2.2.2.1 res.2.2.2.2.1 res.2.2.2.2.2.1 res.2.2.2.2.2.2.1 res.2.2.2.2.2.2.2) res.1 := by
  refine CtI.of RX5 (by decide) rfl (Nat.le_of_ble_eq_true rfl) ?_
  intro p e s m below meth c A Q ls X hA hP hD hl fin
  have hx := X.1
  have hb := X.2.1
  have hl : lv_has ls 8 [(0, .ref a_t), (1, .int p1)] := hl
  have fin' : ∀ (fr0 : Int32) (fr1 : Int32) (fr2 : Int32) (fr3 : (Nat → Int32)) (fr4 : (Nat → Int32)) (fr5 : (Nat → Int32)) (fr6 : (Nat → Int32)) (fr7 : (Nat → Int32)), some (fr0, fr1, fr2, fr3, fr4, fr5, fr6, fr7) = some res → ∀ (pc : Nat) (ls : Array Slot) (H : Heap) (locs : List Loc), decode cX5_one pc = .ok (.ireturn, 1) → narrow .int (.int fr0) = .int fr0 → va_P E.1 vwCl (wd_X5_one E a_t a_t_table a_t_table_text a_t_row a_t_row_counts a_t_row_ends a_t_row_comers a_t_row_leaders a_t_row_chains w_t_pad x_t_signs w_t_images w_t_pack w_t_chances w_t_writing w_t_guess w_t_table_weights w_t_table_sightFrom w_t_table_sightOut x_t_table_places x_t_table_beginnings x_t_table_courtCount x_t_table_allowed x_t_table_sights x_t_table_kept x_t_table_text fr1 fr2 fr3 fr4 fr5 fr6 fr7) H → va_D A (wd_X5_one E a_t a_t_table a_t_table_text a_t_row a_t_row_counts a_t_row_ends a_t_row_comers a_t_row_leaders a_t_row_chains w_t_pad x_t_signs w_t_images w_t_pack w_t_chances w_t_writing w_t_guess w_t_table_weights w_t_table_sightFrom w_t_table_sightOut x_t_table_places x_t_table_beginnings x_t_table_courtCount x_t_table_allowed x_t_table_sights x_t_table_kept x_t_table_text fr1 fr2 fr3 fr4 fr5 fr6 fr7) → va_S A s.heap H locs → W p l e (rmm 3 70) s m ([.ref a_t, .int p1] : List Value).toArray below meth c H locs 0 0 Q (F0 m pc ls [.int fr0]) := by
    intro fr0 fr1 fr2 fr3 fr4 fr5 fr6 fr7 he
    cases he
    exact fin
  have L62 : ∀ (n62 : Nat) (v2 : Int32) (v3 : Int32) (v4 : Int32) (v5 : Int32) (m_t_row_places : Int32) (m_t_row_beginnings : Int32) (m_t_row_counts : Nat → Int32) (m_t_row_ends : Nat → Int32) (m_t_row_comers : Nat → Int32) (m_t_row_leaders : Nat → Int32) (m_t_row_chains : Nat → Int32), f_X5_one_62 p1 n62 v2 v3 v4 v5 m_t_row_places m_t_row_beginnings m_t_row_counts m_t_row_ends m_t_row_comers m_t_row_leaders m_t_row_chains = some res → ∀ (H : Heap) (locs : List Loc) (ls : Array Slot), va_P E.1 vwCl (wd_X5_one E a_t a_t_table a_t_table_text a_t_row a_t_row_counts a_t_row_ends a_t_row_comers a_t_row_leaders a_t_row_chains w_t_pad x_t_signs w_t_images w_t_pack w_t_chances w_t_writing w_t_guess w_t_table_weights w_t_table_sightFrom w_t_table_sightOut x_t_table_places x_t_table_beginnings x_t_table_courtCount x_t_table_allowed x_t_table_sights x_t_table_kept x_t_table_text m_t_row_places m_t_row_beginnings m_t_row_counts m_t_row_ends m_t_row_comers m_t_row_leaders m_t_row_chains) H → va_D A (wd_X5_one E a_t a_t_table a_t_table_text a_t_row a_t_row_counts a_t_row_ends a_t_row_comers a_t_row_leaders a_t_row_chains w_t_pad x_t_signs w_t_images w_t_pack w_t_chances w_t_writing w_t_guess w_t_table_weights w_t_table_sightFrom w_t_table_sightOut x_t_table_places x_t_table_beginnings x_t_table_courtCount x_t_table_allowed x_t_table_sights x_t_table_kept x_t_table_text m_t_row_places m_t_row_beginnings m_t_row_counts m_t_row_ends m_t_row_comers m_t_row_leaders m_t_row_chains) → va_S A s.heap H locs → lv_has ls 8 [(0, .ref a_t), (1, .int p1), (2, .int v2), (3, .int v3), (4, .int v4), (5, .int v5)] → W p l e (rmm 3 70) s m ([.ref a_t, .int p1] : List Value).toArray below meth c H locs 0 0 Q (F0 m 62 ls []) := by
    intro n62
    induction n62 with
    | zero => intro v2 v3 v4 v5 m_t_row_places m_t_row_beginnings m_t_row_counts m_t_row_ends m_t_row_comers m_t_row_leaders m_t_row_chains hf; rw [f_X5_one_62] at hf; cases hf
    | succ n62 ih62 =>
      have L77 : ∀ (n77 : Nat) (v2 : Int32) (v3 : Int32) (v4 : Int32) (v5 : Int32) (v6 : Int32) (m_t_row_places : Int32) (m_t_row_beginnings : Int32) (m_t_row_counts : Nat → Int32) (m_t_row_ends : Nat → Int32) (m_t_row_comers : Nat → Int32) (m_t_row_leaders : Nat → Int32) (m_t_row_chains : Nat → Int32), f_X5_one_77 (f_X5_one_62 p1 n62) n77 v2 v3 v4 v5 v6 m_t_row_places m_t_row_beginnings m_t_row_counts m_t_row_ends m_t_row_comers m_t_row_leaders m_t_row_chains = some res → ∀ (H : Heap) (locs : List Loc) (ls : Array Slot), va_P E.1 vwCl (wd_X5_one E a_t a_t_table a_t_table_text a_t_row a_t_row_counts a_t_row_ends a_t_row_comers a_t_row_leaders a_t_row_chains w_t_pad x_t_signs w_t_images w_t_pack w_t_chances w_t_writing w_t_guess w_t_table_weights w_t_table_sightFrom w_t_table_sightOut x_t_table_places x_t_table_beginnings x_t_table_courtCount x_t_table_allowed x_t_table_sights x_t_table_kept x_t_table_text m_t_row_places m_t_row_beginnings m_t_row_counts m_t_row_ends m_t_row_comers m_t_row_leaders m_t_row_chains) H → va_D A (wd_X5_one E a_t a_t_table a_t_table_text a_t_row a_t_row_counts a_t_row_ends a_t_row_comers a_t_row_leaders a_t_row_chains w_t_pad x_t_signs w_t_images w_t_pack w_t_chances w_t_writing w_t_guess w_t_table_weights w_t_table_sightFrom w_t_table_sightOut x_t_table_places x_t_table_beginnings x_t_table_courtCount x_t_table_allowed x_t_table_sights x_t_table_kept x_t_table_text m_t_row_places m_t_row_beginnings m_t_row_counts m_t_row_ends m_t_row_comers m_t_row_leaders m_t_row_chains) → va_S A s.heap H locs → lv_has ls 8 [(0, .ref a_t), (1, .int p1), (2, .int v2), (3, .int v3), (4, .int v4), (5, .int v5), (6, .int v6)] → W p l e (rmm 3 70) s m ([.ref a_t, .int p1] : List Value).toArray below meth c H locs 0 0 Q (F0 m 77 ls []) := by
        intro n77
        induction n77 with
        | zero => intro v2 v3 v4 v5 v6 m_t_row_places m_t_row_beginnings m_t_row_counts m_t_row_ends m_t_row_comers m_t_row_leaders m_t_row_chains hf; rw [f_X5_one_77] at hf; cases hf
        | succ n77 ih77 =>
          intro v2 v3 v4 v5 v6 m_t_row_places m_t_row_beginnings m_t_row_counts m_t_row_ends m_t_row_comers m_t_row_leaders m_t_row_chains hf H locs ls hP hD hS hl
          rw [f_X5_one_77] at hf
          refine lv_iload hx hb dX5_one_77 (lv_at hl 6 rfl) ?_
          refine lv_bipush (v := (10 : Int32)) hx hb dX5_one_79 (by decide) ?_
          refine lv_icmp_gt (tgt := 119) hx hb dX5_one_81 (by decide) (fun c_81 => ?_) (fun c_81 => ?_)
          · have hf := if_t c_81 hf
            refine lv_iinc (v := (v5 + (1 : Int32))) (lv' := [(5, .int (v5 + (1 : Int32))), (0, .ref a_t), (1, .int p1), (2, .int v2), (3, .int v3), (4, .int v4), (6, .int v6)]) hx hb dX5_one_119 hl (k := 5) rfl rfl (by decide) rfl (fun ls hl => ?_)
            refine lv_goto (tgt := 62) hx hb dX5_one_122 (by decide) ?_
            exact ih62 v2 v3 v4 (v5 + (1 : Int32)) m_t_row_places m_t_row_beginnings m_t_row_counts m_t_row_ends m_t_row_comers m_t_row_leaders m_t_row_chains hf H locs ls hP hD hS (lv_sub hl [1, 2, 3, 4, 5, 0] rfl)
          · have hf := if_f c_81 hf
            refine lv_aload_n hx hb dX5_one_84 rfl (lv_at hl 0 rfl) ?_
            refine gf_X5_34 X hP 0 rfl rfl dX5_one_85 ?_
            refine lv_iload hx hb dX5_one_88 (lv_at hl 5 rfl) ?_
            refine lv_iload hx hb dX5_one_90 (lv_at hl 6 rfl) ?_
            obtain ⟨r92, hc92, hf⟩ := bd_some hf
            refine cV_I X hA hP hD hS hl.1 (c_X2_mindsBy l E a_t_row a_t_row_ends a_t_row_comers (.ref a_t_row_counts) (.ref a_t_row_leaders) (.ref a_t_row_chains) m_t_row_places m_t_row_beginnings m_t_row_ends m_t_row_comers v5 v6 r92 hc92) 2 k_452 mw_X2_mindsBy hd_X2_mindsBy ⟨Nat.le_of_ble_eq_true rfl, Nat.le_of_ble_eq_true rfl⟩ [3, 5, 6] [0, 1, 2, 4, 7, 8] [0, 1, 2, 6, 3, 7, 8, 4, 5] rfl rfl (wr := [0, 1, 2, 4, 7, 8].filterMap (fun i => (wd_X5_one E a_t a_t_table a_t_table_text a_t_row a_t_row_counts a_t_row_ends a_t_row_comers a_t_row_leaders a_t_row_chains w_t_pad x_t_signs w_t_images w_t_pack w_t_chances w_t_writing w_t_guess w_t_table_weights w_t_table_sightFrom w_t_table_sightOut x_t_table_places x_t_table_beginnings x_t_table_courtCount x_t_table_allowed x_t_table_sights x_t_table_kept x_t_table_text m_t_row_places m_t_row_beginnings m_t_row_counts m_t_row_ends m_t_row_comers m_t_row_leaders m_t_row_chains)[i]?)) rfl rfl rfl 2 0 rfl rfl rfl rfl rfl (Nat.le_of_ble_eq_true rfl) rfl (ws' := (wd_X5_one E a_t a_t_table a_t_table_text a_t_row a_t_row_counts a_t_row_ends a_t_row_comers a_t_row_leaders a_t_row_chains w_t_pad x_t_signs w_t_images w_t_pack w_t_chances w_t_writing w_t_guess w_t_table_weights w_t_table_sightFrom w_t_table_sightOut x_t_table_places x_t_table_beginnings x_t_table_courtCount x_t_table_allowed x_t_table_sights x_t_table_kept x_t_table_text m_t_row_places m_t_row_beginnings m_t_row_counts m_t_row_ends m_t_row_comers m_t_row_leaders m_t_row_chains)) rfl ⟨Nat.le_of_ble_eq_true rfl, Nat.le_of_ble_eq_true rfl⟩ dX5_one_92 (fun H locs hP hD hS => ?_)
            refine lv_istore (lv' := [(7, .int r92), (0, .ref a_t), (1, .int p1), (2, .int v2), (3, .int v3), (4, .int v4), (5, .int v5), (6, .int v6)]) hx hb dX5_one_95 hl (by decide) rfl (fun ls hl => ?_)
            refine lv_iload hx hb dX5_one_97 (lv_at hl 0 rfl) ?_
            refine lv_iload_n hx hb dX5_one_99 rfl (lv_at hl 3 rfl) ?_
            refine lv_icmp_le (tgt := 113) hx hb dX5_one_100 (by decide) (fun c_100 => ?_) (fun c_100 => ?_)
            · have hf := if_t c_100 hf
              refine lv_iinc (v := (v6 + (1 : Int32))) (lv' := [(6, .int (v6 + (1 : Int32))), (7, .int r92), (0, .ref a_t), (1, .int p1), (2, .int v2), (3, .int v3), (4, .int v4), (5, .int v5)]) hx hb dX5_one_113 hl (k := 7) rfl rfl (by decide) rfl (fun ls hl => ?_)
              refine lv_goto (tgt := 77) hx hb dX5_one_116 (by decide) ?_
              exact ih77 v2 v3 v4 v5 (v6 + (1 : Int32)) m_t_row_places m_t_row_beginnings m_t_row_counts m_t_row_ends m_t_row_comers m_t_row_leaders m_t_row_chains hf H locs ls hP hD hS (lv_sub hl [2, 3, 4, 5, 6, 7, 0] rfl)
            · have hf := if_f c_100 hf
              refine lv_iload hx hb dX5_one_103 (lv_at hl 0 rfl) ?_
              refine lv_istore_n (lv' := [(2, .int r92), (7, .int r92), (0, .ref a_t), (1, .int p1), (3, .int v3), (4, .int v4), (5, .int v5), (6, .int v6)]) hx hb dX5_one_105 rfl hl (by decide) rfl (fun ls hl => ?_)
              refine lv_iload hx hb dX5_one_106 (lv_at hl 6 rfl) ?_
              refine lv_istore_n (lv' := [(3, .int v5), (2, .int r92), (7, .int r92), (0, .ref a_t), (1, .int p1), (4, .int v4), (5, .int v5), (6, .int v6)]) hx hb dX5_one_108 rfl hl (by decide) rfl (fun ls hl => ?_)
              refine lv_iload hx hb dX5_one_109 (lv_at hl 7 rfl) ?_
              refine lv_istore (lv' := [(4, .int v6), (3, .int v5), (2, .int r92), (7, .int r92), (0, .ref a_t), (1, .int p1), (5, .int v5), (6, .int v6)]) hx hb dX5_one_111 hl (by decide) rfl (fun ls hl => ?_)
              refine lv_iinc (v := (v6 + (1 : Int32))) (lv' := [(6, .int (v6 + (1 : Int32))), (4, .int v6), (3, .int v5), (2, .int r92), (7, .int r92), (0, .ref a_t), (1, .int p1), (5, .int v5)]) hx hb dX5_one_113 hl (k := 7) rfl rfl (by decide) rfl (fun ls hl => ?_)
              refine lv_goto (tgt := 77) hx hb dX5_one_116 (by decide) ?_
              exact ih77 r92 v5 v6 v5 (v6 + (1 : Int32)) m_t_row_places m_t_row_beginnings m_t_row_counts m_t_row_ends m_t_row_comers m_t_row_leaders m_t_row_chains hf H locs ls hP hD hS (lv_sub hl [5, 6, 3, 2, 1, 7, 0] rfl)
      intro v2 v3 v4 v5 m_t_row_places m_t_row_beginnings m_t_row_counts m_t_row_ends m_t_row_comers m_t_row_leaders m_t_row_chains hf H locs ls hP hD hS hl
      rw [f_X5_one_62] at hf
      refine lv_iload hx hb dX5_one_62 (lv_at hl 5 rfl) ?_
      refine lv_aload_n hx hb dX5_one_64 rfl (lv_at hl 0 rfl) ?_
      refine gf_X5_34 X hP 0 rfl rfl dX5_one_65 ?_
      refine gf_X5_147 X hP 3 rfl rfl dX5_one_68 ?_
      refine lv_icmp_ge (tgt := 125) hx hb dX5_one_71 (by decide) (fun c_71 => ?_) (fun c_71 => ?_)
      · have hf := if_t c_71 hf
        refine lv_iload_n hx hb dX5_one_125 rfl (lv_at hl 1 rfl) ?_
        refine lv_if_ne (tgt := 131) hx hb dX5_one_126 (by decide) (fun c_126 => ?_) (fun c_126 => ?_)
        · have hf := if_f c_126 hf
          refine lv_iload_n hx hb dX5_one_131 rfl (lv_at hl 1 rfl) ?_
          refine lv_iconst (v := (1 : Int32)) hx hb dX5_one_132 (by decide) ?_
          refine lv_icmp_ne (tgt := 141) hx hb dX5_one_133 (by decide) (fun c_133 => ?_) (fun c_133 => ?_)
          · have hf := if_f c_133 hf
            refine lv_iload_n hx hb dX5_one_141 rfl (lv_at hl 2 rfl) ?_
            exact fin' _ _ _ _ _ _ _ _ hf 142 ls H locs dX5_one_142 rfl hP hD hS
          · have hf := if_t c_133 hf
            refine lv_iload hx hb dX5_one_136 (lv_at hl 4 rfl) ?_
            refine lv_goto (tgt := 142) hx hb dX5_one_138 (by decide) ?_
            exact fin' _ _ _ _ _ _ _ _ hf 142 ls H locs dX5_one_142 rfl hP hD hS
        · have hf := if_t c_126 hf
          refine lv_iload_n hx hb dX5_one_129 rfl (lv_at hl 3 rfl) ?_
          exact fin' _ _ _ _ _ _ _ _ hf 130 ls H locs dX5_one_130 rfl hP hD hS
      · have hf := if_f c_71 hf
        refine lv_iconst (v := (1 : Int32)) hx hb dX5_one_74 (by decide) ?_
        refine lv_istore (lv' := [(6, .int (1 : Int32)), (0, .ref a_t), (1, .int p1), (2, .int v2), (3, .int v3), (4, .int v4), (5, .int v5)]) hx hb dX5_one_75 hl (by decide) rfl (fun ls hl => ?_)
        exact L77 FU v2 v3 v4 v5 (1 : Int32) m_t_row_places m_t_row_beginnings m_t_row_counts m_t_row_ends m_t_row_comers m_t_row_leaders m_t_row_chains hf H locs ls hP hD hS (lv_sub hl [1, 2, 3, 4, 5, 6, 0] rfl)
  have hS : va_S A s.heap s.heap [] := va_S.rf
  obtain ⟨H, hH9⟩ : ∃ z, z = s.heap := ⟨_, rfl⟩
  obtain ⟨locs, hL9⟩ : ∃ z : List Loc, z = [] := ⟨_, rfl⟩
  rw [← hL9]
  rw [← hL9] at hS
  have hP : va_P E.1 vwCl (wd_X5_one E a_t a_t_table a_t_table_text a_t_row a_t_row_counts a_t_row_ends a_t_row_comers a_t_row_leaders a_t_row_chains w_t_pad x_t_signs w_t_images w_t_pack w_t_chances w_t_writing w_t_guess w_t_table_weights w_t_table_sightFrom w_t_table_sightOut x_t_table_places x_t_table_beginnings x_t_table_courtCount x_t_table_allowed x_t_table_sights x_t_table_kept x_t_table_text x_t_row_places x_t_row_beginnings x_t_row_counts x_t_row_ends x_t_row_comers x_t_row_leaders x_t_row_chains) H := by rw [hH9]; exact hP
  have hS : va_S A s.heap H locs := by rw [hH9]; exact hS
  suffices hgoal : W p l e (rmm 3 70) s m ([.ref a_t, .int p1] : List Value).toArray below meth c H locs 0 0 Q (F0 m 0 ls []) by rw [hH9] at hgoal; exact hgoal
  rw [f_X5_one] at hf
  refine lv_iload_n hx hb dX5_one_0 rfl (lv_at hl 1 rfl) ?_
  refine lv_if_lt (tgt := 9) hx hb dX5_one_1 (by decide) (fun c_1 => ?_) (fun c_1 => ?_)
  · have hf := if_t c_1 hf
    refine lv_bipush (v := (-2 : Int32)) hx hb dX5_one_9 (by decide) ?_
    exact fin' _ _ _ _ _ _ _ _ hf 11 ls H locs dX5_one_11 rfl hP hD hS
  · have hf := if_f c_1 hf
    refine lv_iload_n hx hb dX5_one_4 rfl (lv_at hl 1 rfl) ?_
    refine lv_iconst (v := (2 : Int32)) hx hb dX5_one_5 (by decide) ?_
    refine lv_icmp_le (tgt := 12) hx hb dX5_one_6 (by decide) (fun c_6 => ?_) (fun c_6 => ?_)
    · have hf := if_t c_6 hf
      refine lv_aload_n hx hb dX5_one_12 rfl (lv_at hl 0 rfl) ?_
      refine gf_X5_20 X hP 0 rfl rfl dX5_one_13 ?_
      obtain ⟨r16, hc16, hf⟩ := bd_some hf
      refine cV_I X hA hP hD hS hl.1 (c_X3_isWhole l E a_t_table a_t_table_text w_t_table_weights w_t_table_sightFrom w_t_table_sightOut x_t_table_places x_t_table_beginnings x_t_table_courtCount x_t_table_allowed x_t_table_sights x_t_table_kept x_t_table_text r16 hc16) 0 k_376 mw_X3_isWhole hd_X3_isWhole ⟨Nat.le_of_ble_eq_true rfl, Nat.le_of_ble_eq_true rfl⟩ [1, 2] [0, 3, 4, 5, 6, 7, 8] [0, 7, 8, 1, 2, 3, 4, 5, 6] rfl rfl (wr := [0, 3, 4, 5, 6, 7, 8].filterMap (fun i => (wd_X5_one E a_t a_t_table a_t_table_text a_t_row a_t_row_counts a_t_row_ends a_t_row_comers a_t_row_leaders a_t_row_chains w_t_pad x_t_signs w_t_images w_t_pack w_t_chances w_t_writing w_t_guess w_t_table_weights w_t_table_sightFrom w_t_table_sightOut x_t_table_places x_t_table_beginnings x_t_table_courtCount x_t_table_allowed x_t_table_sights x_t_table_kept x_t_table_text x_t_row_places x_t_row_beginnings x_t_row_counts x_t_row_ends x_t_row_comers x_t_row_leaders x_t_row_chains)[i]?)) rfl rfl rfl 3 0 rfl rfl rfl rfl rfl (Nat.le_of_ble_eq_true rfl) rfl (ws' := (wd_X5_one E a_t a_t_table a_t_table_text a_t_row a_t_row_counts a_t_row_ends a_t_row_comers a_t_row_leaders a_t_row_chains w_t_pad x_t_signs w_t_images w_t_pack w_t_chances w_t_writing w_t_guess w_t_table_weights w_t_table_sightFrom w_t_table_sightOut x_t_table_places x_t_table_beginnings x_t_table_courtCount x_t_table_allowed x_t_table_sights x_t_table_kept x_t_table_text x_t_row_places x_t_row_beginnings x_t_row_counts x_t_row_ends x_t_row_comers x_t_row_leaders x_t_row_chains)) rfl ⟨Nat.le_of_ble_eq_true rfl, Nat.le_of_ble_eq_true rfl⟩ dX5_one_16 (fun H locs hP hD hS => ?_)
      refine lv_if_ne (tgt := 25) hx hb dX5_one_19 (by decide) (fun c_19 => ?_) (fun c_19 => ?_)
      · have hf := if_f c_19 hf
        refine lv_aload_n hx hb dX5_one_25 rfl (lv_at hl 0 rfl) ?_
        refine gf_X5_34 X hP 0 rfl rfl dX5_one_26 ?_
        refine lv_aload_n hx hb dX5_one_29 rfl (lv_at hl 0 rfl) ?_
        refine gf_X5_20 X hP 0 rfl rfl dX5_one_30 ?_
        refine gf_X5_93 X hP 1 rfl rfl dX5_one_33 ?_
        refine lv_aload_n hx hb dX5_one_36 rfl (lv_at hl 0 rfl) ?_
        refine gf_X5_20 X hP 0 rfl rfl dX5_one_37 ?_
        refine lv_aload_n hx hb dX5_one_40 rfl (lv_at hl 0 rfl) ?_
        refine gf_X5_20 X hP 0 rfl rfl dX5_one_41 ?_
        refine gf_X5_77 X hP 1 rfl rfl dX5_one_44 ?_
        obtain ⟨r47, hc47, hf⟩ := bd_some hf
        refine cV_V X hA hP hD hS hl.1 (c_X2_follow l E a_t_row a_t_table_text a_t_table a_t_row_counts a_t_row_ends a_t_row_comers a_t_row_leaders a_t_row_chains x_t_row_places x_t_row_beginnings x_t_table_text (.ref a_t_table_text) w_t_table_weights w_t_table_sightFrom w_t_table_sightOut x_t_table_places x_t_table_beginnings x_t_table_courtCount x_t_table_allowed x_t_table_sights x_t_table_kept x_t_row_counts x_t_row_ends x_t_row_comers x_t_row_leaders x_t_row_chains x_t_table_courtCount r47 hc47) 3 k_384 mw_X2_follow hd_X2_follow ⟨Nat.le_of_ble_eq_true rfl, Nat.le_of_ble_eq_true rfl⟩ [3, 2, 1, 4, 5, 6, 7, 8] [0] [0, 3, 2, 1, 4, 5, 6, 7, 8] rfl rfl (wr := [0].filterMap (fun i => (wd_X5_one E a_t a_t_table a_t_table_text a_t_row a_t_row_counts a_t_row_ends a_t_row_comers a_t_row_leaders a_t_row_chains w_t_pad x_t_signs w_t_images w_t_pack w_t_chances w_t_writing w_t_guess w_t_table_weights w_t_table_sightFrom w_t_table_sightOut x_t_table_places x_t_table_beginnings x_t_table_courtCount x_t_table_allowed x_t_table_sights x_t_table_kept x_t_table_text x_t_row_places x_t_row_beginnings x_t_row_counts x_t_row_ends x_t_row_comers x_t_row_leaders x_t_row_chains)[i]?)) rfl rfl rfl 2 0 rfl rfl rfl rfl rfl (Nat.le_of_ble_eq_true rfl) rfl (ws' := (wd_X5_one E a_t a_t_table a_t_table_text a_t_row a_t_row_counts a_t_row_ends a_t_row_comers a_t_row_leaders a_t_row_chains w_t_pad x_t_signs w_t_images w_t_pack w_t_chances w_t_writing w_t_guess w_t_table_weights w_t_table_sightFrom w_t_table_sightOut x_t_table_places x_t_table_beginnings x_t_table_courtCount x_t_table_allowed x_t_table_sights x_t_table_kept x_t_table_text r47.1 r47.2.1 r47.2.2.1 r47.2.2.2.1 r47.2.2.2.2.1 r47.2.2.2.2.2.1 r47.2.2.2.2.2.2)) rfl ⟨Nat.le_of_ble_eq_true rfl, Nat.le_of_ble_eq_true rfl⟩ dX5_one_47 (fun H locs hP hD hS => ?_)
        refine lv_iconst (v := (0 : Int32)) hx hb dX5_one_50 (by decide) ?_
        refine lv_istore_n (lv' := [(2, .int (0 : Int32)), (0, .ref a_t), (1, .int p1)]) hx hb dX5_one_51 rfl hl (by decide) rfl (fun ls hl => ?_)
        refine lv_bipush (v := (-6 : Int32)) hx hb dX5_one_52 (by decide) ?_
        refine lv_istore_n (lv' := [(3, .int (-6 : Int32)), (2, .int (0 : Int32)), (0, .ref a_t), (1, .int p1)]) hx hb dX5_one_54 rfl hl (by decide) rfl (fun ls hl => ?_)
        refine lv_bipush (v := (-6 : Int32)) hx hb dX5_one_55 (by decide) ?_
        refine lv_istore (lv' := [(4, .int (-6 : Int32)), (3, .int (-6 : Int32)), (2, .int (0 : Int32)), (0, .ref a_t), (1, .int p1)]) hx hb dX5_one_57 hl (by decide) rfl (fun ls hl => ?_)
        refine lv_iconst (v := (0 : Int32)) hx hb dX5_one_59 (by decide) ?_
        refine lv_istore (lv' := [(5, .int (0 : Int32)), (4, .int (-6 : Int32)), (3, .int (-6 : Int32)), (2, .int (0 : Int32)), (0, .ref a_t), (1, .int p1)]) hx hb dX5_one_60 hl (by decide) rfl (fun ls hl => ?_)
        exact L62 FU (0 : Int32) (-6 : Int32) (-6 : Int32) (0 : Int32) r47.1 r47.2.1 r47.2.2.1 r47.2.2.2.1 r47.2.2.2.2.1 r47.2.2.2.2.2.1 r47.2.2.2.2.2.2 hf H locs ls hP hD hS (lv_sub hl [4, 5, 3, 2, 1, 0] rfl)
      · have hf := if_t c_19 hf
        refine lv_bipush (v := (-3 : Int32)) hx hb dX5_one_22 (by decide) ?_
        exact fin' _ _ _ _ _ _ _ _ hf 24 ls H locs dX5_one_24 rfl hP hD hS
    · have hf := if_f c_6 hf
      refine lv_bipush (v := (-2 : Int32)) hx hb dX5_one_9 (by decide) ?_
      exact fin' _ _ _ _ _ _ _ _ hf 11 ls H locs dX5_one_11 rfl hP hD hS
abbrev wd_X5_best (E : EN) (a_t : Nat) (a_t_table : Nat) (a_t_table_text : Nat) (a_t_row : Nat) (a_t_row_counts : Nat) (a_t_row_ends : Nat) (a_t_row_comers : Nat) (a_t_row_leaders : Nat) (a_t_row_chains : Nat) (w_t_pad : Value) (x_t_signs : Int32) (w_t_images : Value) (w_t_pack : Value) (w_t_chances : Value) (w_t_writing : Value) (w_t_guess : Value) (w_t_table_weights : Value) (w_t_table_sightFrom : Value) (w_t_table_sightOut : Value) (x_t_table_places : Int32) (x_t_table_beginnings : Int32) (x_t_table_courtCount : Int32) (x_t_table_allowed : Int32) (x_t_table_sights : Int32) (x_t_table_kept : Int32) (x_t_table_text : Nat → Int32) (x_t_row_places : Int32) (x_t_row_beginnings : Int32) (x_t_row_counts : Nat → Int32) (x_t_row_ends : Nat → Int32) (x_t_row_comers : Nat → Int32) (x_t_row_leaders : Nat → Int32) (x_t_row_chains : Nat → Int32) : va_W := [(a_t, e_O 5 [w_t_pad, .int x_t_signs, .ref a_t_table, w_t_images, w_t_pack, .ref a_t_row, w_t_chances, w_t_writing, w_t_guess]), (a_t_table, e_O 3 [.ref a_t_table_text, w_t_table_weights, w_t_table_sightFrom, w_t_table_sightOut, .int x_t_table_places, .int x_t_table_beginnings, .int x_t_table_courtCount, .int x_t_table_allowed, .int x_t_table_sights, .int x_t_table_kept]), (a_t_table_text, e_C E 40 x_t_table_text), (a_t_row, e_O 2 [.ref a_t_row_counts, .ref a_t_row_ends, .ref a_t_row_comers, .ref a_t_row_leaders, .ref a_t_row_chains, .int x_t_row_places, .int x_t_row_beginnings]), (a_t_row_counts, e_I E 40 x_t_row_counts), (a_t_row_ends, e_I E 40 x_t_row_ends), (a_t_row_comers, e_I E 40 x_t_row_comers), (a_t_row_leaders, e_I E 40 x_t_row_leaders), (a_t_row_chains, e_I E 40 x_t_row_chains)]
def f_X5_best_32 (p1 : Int32) (x_t_table_places : Int32) (x_t_table_beginnings : Int32) (x_t_table_text : Nat → Int32)  : Nat → Int32 → Int32 → Int32 → Int32 → Int32 → (Nat → Int32) → (Nat → Int32) → (Nat → Int32) → (Nat → Int32) → (Nat → Int32) → Option (Int32 × Int32 × Int32 × (Nat → Int32) × (Nat → Int32) × (Nat → Int32) × (Nat → Int32) × (Nat → Int32))
  | 0, _, _, _, _, _, _, _, _, _, _ => none
  | n_ + 1, v2, v3, v4, m_t_row_places, m_t_row_beginnings, m_t_row_counts, m_t_row_ends, m_t_row_comers, m_t_row_leaders, m_t_row_chains =>
    if (10 : Int32) < v4 then
      if p1 = 0 then
        some (v3, m_t_row_places, m_t_row_beginnings, m_t_row_counts, m_t_row_ends, m_t_row_comers, m_t_row_leaders, m_t_row_chains)
      else
        some (v2, m_t_row_places, m_t_row_beginnings, m_t_row_counts, m_t_row_ends, m_t_row_comers, m_t_row_leaders, m_t_row_chains)
    else
      Option.bind (f_X2_follow v4 x_t_table_text x_t_table_places x_t_table_beginnings m_t_row_counts m_t_row_ends m_t_row_comers m_t_row_leaders m_t_row_chains) (fun r56 =>
      Option.bind (f_X2_mostAtOneEnd r56.1 r56.2.2.2.1 r56.2.2.2.2.1) (fun r63 =>
      if r63 ≤ v2 then
        f_X5_best_32 p1 x_t_table_places x_t_table_beginnings x_t_table_text n_ v2 v3 (v4 + (1 : Int32)) r56.1 r56.2.1 r56.2.2.1 r56.2.2.2.1 r56.2.2.2.2.1 r56.2.2.2.2.2.1 r56.2.2.2.2.2.2
      else
        f_X5_best_32 p1 x_t_table_places x_t_table_beginnings x_t_table_text n_ r63 v4 (v4 + (1 : Int32)) r56.1 r56.2.1 r56.2.2.1 r56.2.2.2.1 r56.2.2.2.2.1 r56.2.2.2.2.2.1 r56.2.2.2.2.2.2))
def f_X5_best (p1 : Int32) (x_t_table_places : Int32) (x_t_table_beginnings : Int32) (x_t_table_text : Nat → Int32) (x_t_row_places : Int32) (x_t_row_beginnings : Int32) (x_t_row_counts : Nat → Int32) (x_t_row_ends : Nat → Int32) (x_t_row_comers : Nat → Int32) (x_t_row_leaders : Nat → Int32) (x_t_row_chains : Nat → Int32) : Option (Int32 × Int32 × Int32 × (Nat → Int32) × (Nat → Int32) × (Nat → Int32) × (Nat → Int32) × (Nat → Int32)) :=
  if p1 < 0 then
    some ((-2 : Int32), x_t_row_places, x_t_row_beginnings, x_t_row_counts, x_t_row_ends, x_t_row_comers, x_t_row_leaders, x_t_row_chains)
  else
    if p1 ≤ (1 : Int32) then
      Option.bind (f_X3_isWhole x_t_table_places x_t_table_text) (fun r16 =>
      if r16 = 0 then
        some ((-3 : Int32), x_t_row_places, x_t_row_beginnings, x_t_row_counts, x_t_row_ends, x_t_row_comers, x_t_row_leaders, x_t_row_chains)
      else
        f_X5_best_32 p1 x_t_table_places x_t_table_beginnings x_t_table_text FU (0 : Int32) (1 : Int32) (1 : Int32) x_t_row_places x_t_row_beginnings x_t_row_counts x_t_row_ends x_t_row_comers x_t_row_leaders x_t_row_chains)
    else
      some ((-2 : Int32), x_t_row_places, x_t_row_beginnings, x_t_row_counts, x_t_row_ends, x_t_row_comers, x_t_row_leaders, x_t_row_chains)
set_option maxHeartbeats 4000000 in
set_option maxRecDepth 100000 in
theorem c_X5_best (l : Launch) (E : EN) (a_t a_t_table a_t_table_text a_t_row a_t_row_counts a_t_row_ends a_t_row_comers a_t_row_leaders a_t_row_chains : Nat) (w_t_pad : Value) (x_t_signs : Int32) (w_t_images : Value) (w_t_pack : Value) (w_t_chances : Value) (w_t_writing : Value) (w_t_guess : Value) (w_t_table_weights : Value) (w_t_table_sightFrom : Value) (w_t_table_sightOut : Value) (x_t_table_places : Int32) (x_t_table_beginnings : Int32) (x_t_table_courtCount : Int32) (x_t_table_allowed : Int32) (x_t_table_sights : Int32) (x_t_table_kept : Int32) (x_t_table_text : Nat → Int32) (x_t_row_places : Int32) (x_t_row_beginnings : Int32) (x_t_row_counts : Nat → Int32) (x_t_row_ends : Nat → Int32) (x_t_row_comers : Nat → Int32) (x_t_row_leaders : Nat → Int32) (x_t_row_chains : Nat → Int32) (p1 : Int32) (res : Int32 × Int32 × Int32 × (Nat → Int32) × (Nat → Int32) × (Nat → Int32) × (Nat → Int32) × (Nat → Int32)) (hf : f_X5_best p1 x_t_table_places x_t_table_beginnings x_t_table_text x_t_row_places x_t_row_beginnings x_t_row_counts x_t_row_ends x_t_row_comers x_t_row_leaders x_t_row_chains = some res) : CtI l yX5_best cX5_best 6 .int 3 70 E [.ref a_t, .int p1] (wd_X5_best E a_t a_t_table a_t_table_text a_t_row a_t_row_counts a_t_row_ends a_t_row_comers a_t_row_leaders a_t_row_chains w_t_pad x_t_signs w_t_images w_t_pack w_t_chances w_t_writing w_t_guess w_t_table_weights w_t_table_sightFrom w_t_table_sightOut x_t_table_places x_t_table_beginnings x_t_table_courtCount x_t_table_allowed x_t_table_sights x_t_table_kept x_t_table_text x_t_row_places x_t_row_beginnings x_t_row_counts x_t_row_ends x_t_row_comers x_t_row_leaders x_t_row_chains) (wd_X5_best E a_t a_t_table a_t_table_text a_t_row a_t_row_counts a_t_row_ends a_t_row_comers a_t_row_leaders a_t_row_chains w_t_pad x_t_signs w_t_images w_t_pack w_t_chances w_t_writing w_t_guess w_t_table_weights w_t_table_sightFrom w_t_table_sightOut x_t_table_places x_t_table_beginnings x_t_table_courtCount x_t_table_allowed x_t_table_sights x_t_table_kept x_t_table_text res.2.1 res.2.2.1 res.2.2.2.1 res.2.2.2.2.1 res.2.2.2.2.2.1 res.2.2.2.2.2.2.1 res.2.2.2.2.2.2.2) res.1 := by
  refine CtI.of RX5 (by decide) rfl (Nat.le_of_ble_eq_true rfl) ?_
  intro p e s m below meth c A Q ls X hA hP hD hl fin
  have hx := X.1
  have hb := X.2.1
  have hl : lv_has ls 6 [(0, .ref a_t), (1, .int p1)] := hl
  have fin' : ∀ (fr0 : Int32) (fr1 : Int32) (fr2 : Int32) (fr3 : (Nat → Int32)) (fr4 : (Nat → Int32)) (fr5 : (Nat → Int32)) (fr6 : (Nat → Int32)) (fr7 : (Nat → Int32)), some (fr0, fr1, fr2, fr3, fr4, fr5, fr6, fr7) = some res → ∀ (pc : Nat) (ls : Array Slot) (H : Heap) (locs : List Loc), decode cX5_best pc = .ok (.ireturn, 1) → narrow .int (.int fr0) = .int fr0 → va_P E.1 vwCl (wd_X5_best E a_t a_t_table a_t_table_text a_t_row a_t_row_counts a_t_row_ends a_t_row_comers a_t_row_leaders a_t_row_chains w_t_pad x_t_signs w_t_images w_t_pack w_t_chances w_t_writing w_t_guess w_t_table_weights w_t_table_sightFrom w_t_table_sightOut x_t_table_places x_t_table_beginnings x_t_table_courtCount x_t_table_allowed x_t_table_sights x_t_table_kept x_t_table_text fr1 fr2 fr3 fr4 fr5 fr6 fr7) H → va_D A (wd_X5_best E a_t a_t_table a_t_table_text a_t_row a_t_row_counts a_t_row_ends a_t_row_comers a_t_row_leaders a_t_row_chains w_t_pad x_t_signs w_t_images w_t_pack w_t_chances w_t_writing w_t_guess w_t_table_weights w_t_table_sightFrom w_t_table_sightOut x_t_table_places x_t_table_beginnings x_t_table_courtCount x_t_table_allowed x_t_table_sights x_t_table_kept x_t_table_text fr1 fr2 fr3 fr4 fr5 fr6 fr7) → va_S A s.heap H locs → W p l e (rmm 3 70) s m ([.ref a_t, .int p1] : List Value).toArray below meth c H locs 0 0 Q (F0 m pc ls [.int fr0]) := by
    intro fr0 fr1 fr2 fr3 fr4 fr5 fr6 fr7 he
    cases he
    exact fin
  have L32 : ∀ (n32 : Nat) (v2 : Int32) (v3 : Int32) (v4 : Int32) (m_t_row_places : Int32) (m_t_row_beginnings : Int32) (m_t_row_counts : Nat → Int32) (m_t_row_ends : Nat → Int32) (m_t_row_comers : Nat → Int32) (m_t_row_leaders : Nat → Int32) (m_t_row_chains : Nat → Int32), f_X5_best_32 p1 x_t_table_places x_t_table_beginnings x_t_table_text n32 v2 v3 v4 m_t_row_places m_t_row_beginnings m_t_row_counts m_t_row_ends m_t_row_comers m_t_row_leaders m_t_row_chains = some res → ∀ (H : Heap) (locs : List Loc) (ls : Array Slot), va_P E.1 vwCl (wd_X5_best E a_t a_t_table a_t_table_text a_t_row a_t_row_counts a_t_row_ends a_t_row_comers a_t_row_leaders a_t_row_chains w_t_pad x_t_signs w_t_images w_t_pack w_t_chances w_t_writing w_t_guess w_t_table_weights w_t_table_sightFrom w_t_table_sightOut x_t_table_places x_t_table_beginnings x_t_table_courtCount x_t_table_allowed x_t_table_sights x_t_table_kept x_t_table_text m_t_row_places m_t_row_beginnings m_t_row_counts m_t_row_ends m_t_row_comers m_t_row_leaders m_t_row_chains) H → va_D A (wd_X5_best E a_t a_t_table a_t_table_text a_t_row a_t_row_counts a_t_row_ends a_t_row_comers a_t_row_leaders a_t_row_chains w_t_pad x_t_signs w_t_images w_t_pack w_t_chances w_t_writing w_t_guess w_t_table_weights w_t_table_sightFrom w_t_table_sightOut x_t_table_places x_t_table_beginnings x_t_table_courtCount x_t_table_allowed x_t_table_sights x_t_table_kept x_t_table_text m_t_row_places m_t_row_beginnings m_t_row_counts m_t_row_ends m_t_row_comers m_t_row_leaders m_t_row_chains) → va_S A s.heap H locs → lv_has ls 6 [(0, .ref a_t), (1, .int p1), (2, .int v2), (3, .int v3), (4, .int v4)] → W p l e (rmm 3 70) s m ([.ref a_t, .int p1] : List Value).toArray below meth c H locs 0 0 Q (F0 m 32 ls []) := by
    intro n32
    induction n32 with
    | zero => intro v2 v3 v4 m_t_row_places m_t_row_beginnings m_t_row_counts m_t_row_ends m_t_row_comers m_t_row_leaders m_t_row_chains hf; rw [f_X5_best_32] at hf; cases hf
    | succ n32 ih32 =>
      intro v2 v3 v4 m_t_row_places m_t_row_beginnings m_t_row_counts m_t_row_ends m_t_row_comers m_t_row_leaders m_t_row_chains hf H locs ls hP hD hS hl
      rw [f_X5_best_32] at hf
      refine lv_iload hx hb dX5_best_32 (lv_at hl 4 rfl) ?_
      refine lv_bipush (v := (10 : Int32)) hx hb dX5_best_34 (by decide) ?_
      refine lv_icmp_gt (tgt := 86) hx hb dX5_best_36 (by decide) (fun c_36 => ?_) (fun c_36 => ?_)
      · have hf := if_t c_36 hf
        refine lv_iload_n hx hb dX5_best_86 rfl (lv_at hl 1 rfl) ?_
        refine lv_if_ne (tgt := 94) hx hb dX5_best_87 (by decide) (fun c_87 => ?_) (fun c_87 => ?_)
        · have hf := if_f c_87 hf
          refine lv_iload_n hx hb dX5_best_94 rfl (lv_at hl 2 rfl) ?_
          exact fin' _ _ _ _ _ _ _ _ hf 95 ls H locs dX5_best_95 rfl hP hD hS
        · have hf := if_t c_87 hf
          refine lv_iload_n hx hb dX5_best_90 rfl (lv_at hl 3 rfl) ?_
          refine lv_goto (tgt := 95) hx hb dX5_best_91 (by decide) ?_
          exact fin' _ _ _ _ _ _ _ _ hf 95 ls H locs dX5_best_95 rfl hP hD hS
      · have hf := if_f c_36 hf
        refine lv_aload_n hx hb dX5_best_39 rfl (lv_at hl 0 rfl) ?_
        refine gf_X5_34 X hP 0 rfl rfl dX5_best_40 ?_
        refine lv_aload_n hx hb dX5_best_43 rfl (lv_at hl 0 rfl) ?_
        refine gf_X5_20 X hP 0 rfl rfl dX5_best_44 ?_
        refine gf_X5_93 X hP 1 rfl rfl dX5_best_47 ?_
        refine lv_aload_n hx hb dX5_best_50 rfl (lv_at hl 0 rfl) ?_
        refine gf_X5_20 X hP 0 rfl rfl dX5_best_51 ?_
        refine lv_iload hx hb dX5_best_54 (lv_at hl 4 rfl) ?_
        obtain ⟨r56, hc56, hf⟩ := bd_some hf
        refine cV_V X hA hP hD hS hl.1 (c_X2_follow l E a_t_row a_t_table_text a_t_table a_t_row_counts a_t_row_ends a_t_row_comers a_t_row_leaders a_t_row_chains m_t_row_places m_t_row_beginnings x_t_table_text (.ref a_t_table_text) w_t_table_weights w_t_table_sightFrom w_t_table_sightOut x_t_table_places x_t_table_beginnings x_t_table_courtCount x_t_table_allowed x_t_table_sights x_t_table_kept m_t_row_counts m_t_row_ends m_t_row_comers m_t_row_leaders m_t_row_chains v4 r56 hc56) 3 k_384 mw_X2_follow hd_X2_follow ⟨Nat.le_of_ble_eq_true rfl, Nat.le_of_ble_eq_true rfl⟩ [3, 2, 1, 4, 5, 6, 7, 8] [0] [0, 3, 2, 1, 4, 5, 6, 7, 8] rfl rfl (wr := [0].filterMap (fun i => (wd_X5_best E a_t a_t_table a_t_table_text a_t_row a_t_row_counts a_t_row_ends a_t_row_comers a_t_row_leaders a_t_row_chains w_t_pad x_t_signs w_t_images w_t_pack w_t_chances w_t_writing w_t_guess w_t_table_weights w_t_table_sightFrom w_t_table_sightOut x_t_table_places x_t_table_beginnings x_t_table_courtCount x_t_table_allowed x_t_table_sights x_t_table_kept x_t_table_text m_t_row_places m_t_row_beginnings m_t_row_counts m_t_row_ends m_t_row_comers m_t_row_leaders m_t_row_chains)[i]?)) rfl rfl rfl 2 0 rfl rfl rfl rfl rfl (Nat.le_of_ble_eq_true rfl) rfl (ws' := (wd_X5_best E a_t a_t_table a_t_table_text a_t_row a_t_row_counts a_t_row_ends a_t_row_comers a_t_row_leaders a_t_row_chains w_t_pad x_t_signs w_t_images w_t_pack w_t_chances w_t_writing w_t_guess w_t_table_weights w_t_table_sightFrom w_t_table_sightOut x_t_table_places x_t_table_beginnings x_t_table_courtCount x_t_table_allowed x_t_table_sights x_t_table_kept x_t_table_text r56.1 r56.2.1 r56.2.2.1 r56.2.2.2.1 r56.2.2.2.2.1 r56.2.2.2.2.2.1 r56.2.2.2.2.2.2)) rfl ⟨Nat.le_of_ble_eq_true rfl, Nat.le_of_ble_eq_true rfl⟩ dX5_best_56 (fun H locs hP hD hS => ?_)
        refine lv_aload_n hx hb dX5_best_59 rfl (lv_at hl 0 rfl) ?_
        refine gf_X5_34 X hP 0 rfl rfl dX5_best_60 ?_
        obtain ⟨r63, hc63, hf⟩ := bd_some hf
        refine cV_I X hA hP hD hS hl.1 (c_X2_mostAtOneEnd l E a_t_row a_t_row_ends a_t_row_comers (.ref a_t_row_counts) (.ref a_t_row_leaders) (.ref a_t_row_chains) r56.1 r56.2.1 r56.2.2.2.1 r56.2.2.2.2.1 r63 hc63) 0 k_464 mw_X2_mostAtOneEnd hd_X2_mostAtOneEnd ⟨Nat.le_of_ble_eq_true rfl, Nat.le_of_ble_eq_true rfl⟩ [3, 5, 6] [0, 1, 2, 4, 7, 8] [0, 1, 2, 6, 3, 7, 8, 4, 5] rfl rfl (wr := [0, 1, 2, 4, 7, 8].filterMap (fun i => (wd_X5_best E a_t a_t_table a_t_table_text a_t_row a_t_row_counts a_t_row_ends a_t_row_comers a_t_row_leaders a_t_row_chains w_t_pad x_t_signs w_t_images w_t_pack w_t_chances w_t_writing w_t_guess w_t_table_weights w_t_table_sightFrom w_t_table_sightOut x_t_table_places x_t_table_beginnings x_t_table_courtCount x_t_table_allowed x_t_table_sights x_t_table_kept x_t_table_text r56.1 r56.2.1 r56.2.2.1 r56.2.2.2.1 r56.2.2.2.2.1 r56.2.2.2.2.2.1 r56.2.2.2.2.2.2)[i]?)) rfl rfl rfl 2 0 rfl rfl rfl rfl rfl (Nat.le_of_ble_eq_true rfl) rfl (ws' := (wd_X5_best E a_t a_t_table a_t_table_text a_t_row a_t_row_counts a_t_row_ends a_t_row_comers a_t_row_leaders a_t_row_chains w_t_pad x_t_signs w_t_images w_t_pack w_t_chances w_t_writing w_t_guess w_t_table_weights w_t_table_sightFrom w_t_table_sightOut x_t_table_places x_t_table_beginnings x_t_table_courtCount x_t_table_allowed x_t_table_sights x_t_table_kept x_t_table_text r56.1 r56.2.1 r56.2.2.1 r56.2.2.2.1 r56.2.2.2.2.1 r56.2.2.2.2.2.1 r56.2.2.2.2.2.2)) rfl ⟨Nat.le_of_ble_eq_true rfl, Nat.le_of_ble_eq_true rfl⟩ dX5_best_63 (fun H locs hP hD hS => ?_)
        refine lv_istore (lv' := [(5, .int r63), (0, .ref a_t), (1, .int p1), (2, .int v2), (3, .int v3), (4, .int v4)]) hx hb dX5_best_66 hl (by decide) rfl (fun ls hl => ?_)
        refine lv_iload hx hb dX5_best_68 (lv_at hl 0 rfl) ?_
        refine lv_iload_n hx hb dX5_best_70 rfl (lv_at hl 3 rfl) ?_
        refine lv_icmp_le (tgt := 80) hx hb dX5_best_71 (by decide) (fun c_71 => ?_) (fun c_71 => ?_)
        · have hf := if_t c_71 hf
          refine lv_iinc (v := (v4 + (1 : Int32))) (lv' := [(4, .int (v4 + (1 : Int32))), (5, .int r63), (0, .ref a_t), (1, .int p1), (2, .int v2), (3, .int v3)]) hx hb dX5_best_80 hl (k := 5) rfl rfl (by decide) rfl (fun ls hl => ?_)
          refine lv_goto (tgt := 32) hx hb dX5_best_83 (by decide) ?_
          exact ih32 v2 v3 (v4 + (1 : Int32)) r56.1 r56.2.1 r56.2.2.1 r56.2.2.2.1 r56.2.2.2.2.1 r56.2.2.2.2.2.1 r56.2.2.2.2.2.2 hf H locs ls hP hD hS (lv_sub hl [2, 3, 4, 5, 0] rfl)
        · have hf := if_f c_71 hf
          refine lv_iload hx hb dX5_best_74 (lv_at hl 0 rfl) ?_
          refine lv_istore_n (lv' := [(2, .int r63), (5, .int r63), (0, .ref a_t), (1, .int p1), (3, .int v3), (4, .int v4)]) hx hb dX5_best_76 rfl hl (by decide) rfl (fun ls hl => ?_)
          refine lv_iload hx hb dX5_best_77 (lv_at hl 5 rfl) ?_
          refine lv_istore_n (lv' := [(3, .int v4), (2, .int r63), (5, .int r63), (0, .ref a_t), (1, .int p1), (4, .int v4)]) hx hb dX5_best_79 rfl hl (by decide) rfl (fun ls hl => ?_)
          refine lv_iinc (v := (v4 + (1 : Int32))) (lv' := [(4, .int (v4 + (1 : Int32))), (3, .int v4), (2, .int r63), (5, .int r63), (0, .ref a_t), (1, .int p1)]) hx hb dX5_best_80 hl (k := 5) rfl rfl (by decide) rfl (fun ls hl => ?_)
          refine lv_goto (tgt := 32) hx hb dX5_best_83 (by decide) ?_
          exact ih32 r63 v4 (v4 + (1 : Int32)) r56.1 r56.2.1 r56.2.2.1 r56.2.2.2.1 r56.2.2.2.2.1 r56.2.2.2.2.2.1 r56.2.2.2.2.2.2 hf H locs ls hP hD hS (lv_sub hl [4, 5, 2, 1, 0] rfl)
  have hS : va_S A s.heap s.heap [] := va_S.rf
  obtain ⟨H, hH9⟩ : ∃ z, z = s.heap := ⟨_, rfl⟩
  obtain ⟨locs, hL9⟩ : ∃ z : List Loc, z = [] := ⟨_, rfl⟩
  rw [← hL9]
  rw [← hL9] at hS
  have hP : va_P E.1 vwCl (wd_X5_best E a_t a_t_table a_t_table_text a_t_row a_t_row_counts a_t_row_ends a_t_row_comers a_t_row_leaders a_t_row_chains w_t_pad x_t_signs w_t_images w_t_pack w_t_chances w_t_writing w_t_guess w_t_table_weights w_t_table_sightFrom w_t_table_sightOut x_t_table_places x_t_table_beginnings x_t_table_courtCount x_t_table_allowed x_t_table_sights x_t_table_kept x_t_table_text x_t_row_places x_t_row_beginnings x_t_row_counts x_t_row_ends x_t_row_comers x_t_row_leaders x_t_row_chains) H := by rw [hH9]; exact hP
  have hS : va_S A s.heap H locs := by rw [hH9]; exact hS
  suffices hgoal : W p l e (rmm 3 70) s m ([.ref a_t, .int p1] : List Value).toArray below meth c H locs 0 0 Q (F0 m 0 ls []) by rw [hH9] at hgoal; exact hgoal
  rw [f_X5_best] at hf
  refine lv_iload_n hx hb dX5_best_0 rfl (lv_at hl 1 rfl) ?_
  refine lv_if_lt (tgt := 9) hx hb dX5_best_1 (by decide) (fun c_1 => ?_) (fun c_1 => ?_)
  · have hf := if_t c_1 hf
    refine lv_bipush (v := (-2 : Int32)) hx hb dX5_best_9 (by decide) ?_
    exact fin' _ _ _ _ _ _ _ _ hf 11 ls H locs dX5_best_11 rfl hP hD hS
  · have hf := if_f c_1 hf
    refine lv_iload_n hx hb dX5_best_4 rfl (lv_at hl 1 rfl) ?_
    refine lv_iconst (v := (1 : Int32)) hx hb dX5_best_5 (by decide) ?_
    refine lv_icmp_le (tgt := 12) hx hb dX5_best_6 (by decide) (fun c_6 => ?_) (fun c_6 => ?_)
    · have hf := if_t c_6 hf
      refine lv_aload_n hx hb dX5_best_12 rfl (lv_at hl 0 rfl) ?_
      refine gf_X5_20 X hP 0 rfl rfl dX5_best_13 ?_
      obtain ⟨r16, hc16, hf⟩ := bd_some hf
      refine cV_I X hA hP hD hS hl.1 (c_X3_isWhole l E a_t_table a_t_table_text w_t_table_weights w_t_table_sightFrom w_t_table_sightOut x_t_table_places x_t_table_beginnings x_t_table_courtCount x_t_table_allowed x_t_table_sights x_t_table_kept x_t_table_text r16 hc16) 0 k_376 mw_X3_isWhole hd_X3_isWhole ⟨Nat.le_of_ble_eq_true rfl, Nat.le_of_ble_eq_true rfl⟩ [1, 2] [0, 3, 4, 5, 6, 7, 8] [0, 7, 8, 1, 2, 3, 4, 5, 6] rfl rfl (wr := [0, 3, 4, 5, 6, 7, 8].filterMap (fun i => (wd_X5_best E a_t a_t_table a_t_table_text a_t_row a_t_row_counts a_t_row_ends a_t_row_comers a_t_row_leaders a_t_row_chains w_t_pad x_t_signs w_t_images w_t_pack w_t_chances w_t_writing w_t_guess w_t_table_weights w_t_table_sightFrom w_t_table_sightOut x_t_table_places x_t_table_beginnings x_t_table_courtCount x_t_table_allowed x_t_table_sights x_t_table_kept x_t_table_text x_t_row_places x_t_row_beginnings x_t_row_counts x_t_row_ends x_t_row_comers x_t_row_leaders x_t_row_chains)[i]?)) rfl rfl rfl 3 0 rfl rfl rfl rfl rfl (Nat.le_of_ble_eq_true rfl) rfl (ws' := (wd_X5_best E a_t a_t_table a_t_table_text a_t_row a_t_row_counts a_t_row_ends a_t_row_comers a_t_row_leaders a_t_row_chains w_t_pad x_t_signs w_t_images w_t_pack w_t_chances w_t_writing w_t_guess w_t_table_weights w_t_table_sightFrom w_t_table_sightOut x_t_table_places x_t_table_beginnings x_t_table_courtCount x_t_table_allowed x_t_table_sights x_t_table_kept x_t_table_text x_t_row_places x_t_row_beginnings x_t_row_counts x_t_row_ends x_t_row_comers x_t_row_leaders x_t_row_chains)) rfl ⟨Nat.le_of_ble_eq_true rfl, Nat.le_of_ble_eq_true rfl⟩ dX5_best_16 (fun H locs hP hD hS => ?_)
      refine lv_if_ne (tgt := 25) hx hb dX5_best_19 (by decide) (fun c_19 => ?_) (fun c_19 => ?_)
      · have hf := if_f c_19 hf
        refine lv_iconst (v := (0 : Int32)) hx hb dX5_best_25 (by decide) ?_
        refine lv_istore_n (lv' := [(2, .int (0 : Int32)), (0, .ref a_t), (1, .int p1)]) hx hb dX5_best_26 rfl hl (by decide) rfl (fun ls hl => ?_)
        refine lv_iconst (v := (1 : Int32)) hx hb dX5_best_27 (by decide) ?_
        refine lv_istore_n (lv' := [(3, .int (1 : Int32)), (2, .int (0 : Int32)), (0, .ref a_t), (1, .int p1)]) hx hb dX5_best_28 rfl hl (by decide) rfl (fun ls hl => ?_)
        refine lv_iconst (v := (1 : Int32)) hx hb dX5_best_29 (by decide) ?_
        refine lv_istore (lv' := [(4, .int (1 : Int32)), (3, .int (1 : Int32)), (2, .int (0 : Int32)), (0, .ref a_t), (1, .int p1)]) hx hb dX5_best_30 hl (by decide) rfl (fun ls hl => ?_)
        exact L32 FU (0 : Int32) (1 : Int32) (1 : Int32) x_t_row_places x_t_row_beginnings x_t_row_counts x_t_row_ends x_t_row_comers x_t_row_leaders x_t_row_chains hf H locs ls hP hD hS (lv_sub hl [3, 4, 2, 1, 0] rfl)
      · have hf := if_t c_19 hf
        refine lv_bipush (v := (-3 : Int32)) hx hb dX5_best_22 (by decide) ?_
        exact fin' _ _ _ _ _ _ _ _ hf 24 ls H locs dX5_best_24 rfl hP hD hS
    · have hf := if_f c_6 hf
      refine lv_bipush (v := (-2 : Int32)) hx hb dX5_best_9 (by decide) ?_
      exact fin' _ _ _ _ _ _ _ _ hf 11 ls H locs dX5_best_11 rfl hP hD hS
abbrev wd_X5_writtenAt (E : EN) (a_t : Nat) (a_t_table : Nat) (a_t_table_text : Nat) (a_t_writing : Nat) (a_t_writing_kept : Nat) (w_t_pad : Value) (x_t_signs : Int32) (w_t_images : Value) (w_t_pack : Value) (w_t_row : Value) (w_t_chances : Value) (w_t_guess : Value) (w_t_table_weights : Value) (w_t_table_sightFrom : Value) (w_t_table_sightOut : Value) (x_t_table_places : Int32) (x_t_table_beginnings : Int32) (x_t_table_courtCount : Int32) (x_t_table_allowed : Int32) (x_t_table_sights : Int32) (x_t_table_kept : Int32) (x_t_table_text : Nat → Int32) (w_t_writing_tried : Value) (w_t_writing_counts : Value) (x_t_writing_places : Int32) (x_t_writing_beginnings : Int32) (x_t_writing_allowed : Int32) (x_t_writing_leastAllowed : Int32) (x_t_writing_manyAllowed : Int32) (x_t_writing_wish : Int32) (x_t_writing_wishPlace : Int32) (x_t_writing_soonestFirst : Int32) (x_t_writing_ways : Int32) (x_t_writing_leastRank : Int32) (x_t_writing_kept : Nat → Int32) : va_W := [(a_t, e_O 5 [w_t_pad, .int x_t_signs, .ref a_t_table, w_t_images, w_t_pack, w_t_row, w_t_chances, .ref a_t_writing, w_t_guess]), (a_t_table, e_O 3 [.ref a_t_table_text, w_t_table_weights, w_t_table_sightFrom, w_t_table_sightOut, .int x_t_table_places, .int x_t_table_beginnings, .int x_t_table_courtCount, .int x_t_table_allowed, .int x_t_table_sights, .int x_t_table_kept]), (a_t_table_text, e_C E 40 x_t_table_text), (a_t_writing, e_O 4 [.ref a_t_writing_kept, w_t_writing_tried, w_t_writing_counts, .int x_t_writing_places, .int x_t_writing_beginnings, .int x_t_writing_allowed, .int x_t_writing_leastAllowed, .int x_t_writing_manyAllowed, .int x_t_writing_wish, .int x_t_writing_wishPlace, .int x_t_writing_soonestFirst, .int x_t_writing_ways, .int x_t_writing_leastRank]), (a_t_writing_kept, e_I E 4 x_t_writing_kept)]
def f_X5_writtenAt (p1 : Int32) (x_t_table_places : Int32) (x_t_table_text : Nat → Int32) (x_t_writing_ways : Int32) (x_t_writing_kept : Nat → Int32) : Option (Int32) :=
  if p1 < 0 then
    some (-6 : Int32)
  else
    Option.bind (f_X3_howMany (42 : Int32) x_t_table_places x_t_table_text) (fun r11 =>
    if r11 ≤ p1 then
      some (-6 : Int32)
    else
      if (4 : Int32) ≤ p1 then
        some (-6 : Int32)
      else
        if x_t_writing_ways = 0 then
          some (-6 : Int32)
        else
          ck (inB p1 4) (
          some (x_t_writing_kept (ix p1))))
set_option maxHeartbeats 4000000 in
set_option maxRecDepth 100000 in
theorem c_X5_writtenAt (l : Launch) (E : EN) (a_t a_t_table a_t_table_text a_t_writing a_t_writing_kept : Nat) (w_t_pad : Value) (x_t_signs : Int32) (w_t_images : Value) (w_t_pack : Value) (w_t_row : Value) (w_t_chances : Value) (w_t_guess : Value) (w_t_table_weights : Value) (w_t_table_sightFrom : Value) (w_t_table_sightOut : Value) (x_t_table_places : Int32) (x_t_table_beginnings : Int32) (x_t_table_courtCount : Int32) (x_t_table_allowed : Int32) (x_t_table_sights : Int32) (x_t_table_kept : Int32) (x_t_table_text : Nat → Int32) (w_t_writing_tried : Value) (w_t_writing_counts : Value) (x_t_writing_places : Int32) (x_t_writing_beginnings : Int32) (x_t_writing_allowed : Int32) (x_t_writing_leastAllowed : Int32) (x_t_writing_manyAllowed : Int32) (x_t_writing_wish : Int32) (x_t_writing_wishPlace : Int32) (x_t_writing_soonestFirst : Int32) (x_t_writing_ways : Int32) (x_t_writing_leastRank : Int32) (x_t_writing_kept : Nat → Int32) (p1 : Int32) (res : Int32) (hf : f_X5_writtenAt p1 x_t_table_places x_t_table_text x_t_writing_ways x_t_writing_kept = some res) : CtI l yX5_writtenAt cX5_writtenAt 2 .int 1 23 E [.ref a_t, .int p1] (wd_X5_writtenAt E a_t a_t_table a_t_table_text a_t_writing a_t_writing_kept w_t_pad x_t_signs w_t_images w_t_pack w_t_row w_t_chances w_t_guess w_t_table_weights w_t_table_sightFrom w_t_table_sightOut x_t_table_places x_t_table_beginnings x_t_table_courtCount x_t_table_allowed x_t_table_sights x_t_table_kept x_t_table_text w_t_writing_tried w_t_writing_counts x_t_writing_places x_t_writing_beginnings x_t_writing_allowed x_t_writing_leastAllowed x_t_writing_manyAllowed x_t_writing_wish x_t_writing_wishPlace x_t_writing_soonestFirst x_t_writing_ways x_t_writing_leastRank x_t_writing_kept) (wd_X5_writtenAt E a_t a_t_table a_t_table_text a_t_writing a_t_writing_kept w_t_pad x_t_signs w_t_images w_t_pack w_t_row w_t_chances w_t_guess w_t_table_weights w_t_table_sightFrom w_t_table_sightOut x_t_table_places x_t_table_beginnings x_t_table_courtCount x_t_table_allowed x_t_table_sights x_t_table_kept x_t_table_text w_t_writing_tried w_t_writing_counts x_t_writing_places x_t_writing_beginnings x_t_writing_allowed x_t_writing_leastAllowed x_t_writing_manyAllowed x_t_writing_wish x_t_writing_wishPlace x_t_writing_soonestFirst x_t_writing_ways x_t_writing_leastRank x_t_writing_kept) res := by
  refine CtI.of RX5 (by decide) rfl (Nat.le_of_ble_eq_true rfl) ?_
  intro p e s m below meth c A Q ls X hA hP hD hl fin
  have hx := X.1
  have hb := X.2.1
  have hl : lv_has ls 2 [(0, .ref a_t), (1, .int p1)] := hl
  have fin' : ∀ (fr0 : Int32), some fr0 = some res → ∀ (pc : Nat) (ls : Array Slot) (H : Heap) (locs : List Loc), decode cX5_writtenAt pc = .ok (.ireturn, 1) → narrow .int (.int fr0) = .int fr0 → va_P E.1 vwCl (wd_X5_writtenAt E a_t a_t_table a_t_table_text a_t_writing a_t_writing_kept w_t_pad x_t_signs w_t_images w_t_pack w_t_row w_t_chances w_t_guess w_t_table_weights w_t_table_sightFrom w_t_table_sightOut x_t_table_places x_t_table_beginnings x_t_table_courtCount x_t_table_allowed x_t_table_sights x_t_table_kept x_t_table_text w_t_writing_tried w_t_writing_counts x_t_writing_places x_t_writing_beginnings x_t_writing_allowed x_t_writing_leastAllowed x_t_writing_manyAllowed x_t_writing_wish x_t_writing_wishPlace x_t_writing_soonestFirst x_t_writing_ways x_t_writing_leastRank x_t_writing_kept) H → va_D A (wd_X5_writtenAt E a_t a_t_table a_t_table_text a_t_writing a_t_writing_kept w_t_pad x_t_signs w_t_images w_t_pack w_t_row w_t_chances w_t_guess w_t_table_weights w_t_table_sightFrom w_t_table_sightOut x_t_table_places x_t_table_beginnings x_t_table_courtCount x_t_table_allowed x_t_table_sights x_t_table_kept x_t_table_text w_t_writing_tried w_t_writing_counts x_t_writing_places x_t_writing_beginnings x_t_writing_allowed x_t_writing_leastAllowed x_t_writing_manyAllowed x_t_writing_wish x_t_writing_wishPlace x_t_writing_soonestFirst x_t_writing_ways x_t_writing_leastRank x_t_writing_kept) → va_S A s.heap H locs → W p l e (rmm 1 23) s m ([.ref a_t, .int p1] : List Value).toArray below meth c H locs 0 0 Q (F0 m pc ls [.int fr0]) := by
    intro fr0 he
    cases he
    exact fin
  have hS : va_S A s.heap s.heap [] := va_S.rf
  obtain ⟨H, hH9⟩ : ∃ z, z = s.heap := ⟨_, rfl⟩
  obtain ⟨locs, hL9⟩ : ∃ z : List Loc, z = [] := ⟨_, rfl⟩
  rw [← hL9]
  rw [← hL9] at hS
  have hP : va_P E.1 vwCl (wd_X5_writtenAt E a_t a_t_table a_t_table_text a_t_writing a_t_writing_kept w_t_pad x_t_signs w_t_images w_t_pack w_t_row w_t_chances w_t_guess w_t_table_weights w_t_table_sightFrom w_t_table_sightOut x_t_table_places x_t_table_beginnings x_t_table_courtCount x_t_table_allowed x_t_table_sights x_t_table_kept x_t_table_text w_t_writing_tried w_t_writing_counts x_t_writing_places x_t_writing_beginnings x_t_writing_allowed x_t_writing_leastAllowed x_t_writing_manyAllowed x_t_writing_wish x_t_writing_wishPlace x_t_writing_soonestFirst x_t_writing_ways x_t_writing_leastRank x_t_writing_kept) H := by rw [hH9]; exact hP
  have hS : va_S A s.heap H locs := by rw [hH9]; exact hS
  suffices hgoal : W p l e (rmm 1 23) s m ([.ref a_t, .int p1] : List Value).toArray below meth c H locs 0 0 Q (F0 m 0 ls []) by rw [hH9] at hgoal; exact hgoal
  rw [f_X5_writtenAt] at hf
  refine lv_iload_n hx hb dX5_writtenAt_0 rfl (lv_at hl 1 rfl) ?_
  refine lv_if_lt (tgt := 32) hx hb dX5_writtenAt_1 (by decide) (fun c_1 => ?_) (fun c_1 => ?_)
  · have hf := if_t c_1 hf
    refine lv_bipush (v := (-6 : Int32)) hx hb dX5_writtenAt_32 (by decide) ?_
    exact fin' _ hf 34 ls H locs dX5_writtenAt_34 rfl hP hD hS
  · have hf := if_f c_1 hf
    refine lv_iload_n hx hb dX5_writtenAt_4 rfl (lv_at hl 1 rfl) ?_
    refine lv_aload_n hx hb dX5_writtenAt_5 rfl (lv_at hl 0 rfl) ?_
    refine gf_X5_20 X hP 0 rfl rfl dX5_writtenAt_6 ?_
    refine lv_bipush (v := (42 : Int32)) hx hb dX5_writtenAt_9 (by decide) ?_
    obtain ⟨r11, hc11, hf⟩ := bd_some hf
    refine cV_I X hA hP hD hS hl.1 (c_X3_howMany l E a_t_table a_t_table_text w_t_table_weights w_t_table_sightFrom w_t_table_sightOut x_t_table_places x_t_table_beginnings x_t_table_courtCount x_t_table_allowed x_t_table_sights x_t_table_kept x_t_table_text (42 : Int32) r11 hc11) 1 k_477 mw_X3_howMany hd_X3_howMany ⟨Nat.le_of_ble_eq_true rfl, Nat.le_of_ble_eq_true rfl⟩ [1, 2] [0, 3, 4] [0, 3, 4, 1, 2] rfl rfl (wr := [0, 3, 4].filterMap (fun i => (wd_X5_writtenAt E a_t a_t_table a_t_table_text a_t_writing a_t_writing_kept w_t_pad x_t_signs w_t_images w_t_pack w_t_row w_t_chances w_t_guess w_t_table_weights w_t_table_sightFrom w_t_table_sightOut x_t_table_places x_t_table_beginnings x_t_table_courtCount x_t_table_allowed x_t_table_sights x_t_table_kept x_t_table_text w_t_writing_tried w_t_writing_counts x_t_writing_places x_t_writing_beginnings x_t_writing_allowed x_t_writing_leastAllowed x_t_writing_manyAllowed x_t_writing_wish x_t_writing_wishPlace x_t_writing_soonestFirst x_t_writing_ways x_t_writing_leastRank x_t_writing_kept)[i]?)) rfl rfl rfl 3 0 rfl rfl rfl rfl rfl (Nat.le_of_ble_eq_true rfl) rfl (ws' := (wd_X5_writtenAt E a_t a_t_table a_t_table_text a_t_writing a_t_writing_kept w_t_pad x_t_signs w_t_images w_t_pack w_t_row w_t_chances w_t_guess w_t_table_weights w_t_table_sightFrom w_t_table_sightOut x_t_table_places x_t_table_beginnings x_t_table_courtCount x_t_table_allowed x_t_table_sights x_t_table_kept x_t_table_text w_t_writing_tried w_t_writing_counts x_t_writing_places x_t_writing_beginnings x_t_writing_allowed x_t_writing_leastAllowed x_t_writing_manyAllowed x_t_writing_wish x_t_writing_wishPlace x_t_writing_soonestFirst x_t_writing_ways x_t_writing_leastRank x_t_writing_kept)) rfl ⟨Nat.le_of_ble_eq_true rfl, Nat.le_of_ble_eq_true rfl⟩ dX5_writtenAt_11 (fun H locs hP hD hS => ?_)
    refine lv_icmp_ge (tgt := 32) hx hb dX5_writtenAt_14 (by decide) (fun c_14 => ?_) (fun c_14 => ?_)
    · have hf := if_t c_14 hf
      refine lv_bipush (v := (-6 : Int32)) hx hb dX5_writtenAt_32 (by decide) ?_
      exact fin' _ hf 34 ls H locs dX5_writtenAt_34 rfl hP hD hS
    · have hf := if_f c_14 hf
      refine lv_iload_n hx hb dX5_writtenAt_17 rfl (lv_at hl 1 rfl) ?_
      refine lv_iconst (v := (4 : Int32)) hx hb dX5_writtenAt_18 (by decide) ?_
      refine lv_icmp_ge (tgt := 32) hx hb dX5_writtenAt_19 (by decide) (fun c_19 => ?_) (fun c_19 => ?_)
      · have hf := if_t c_19 hf
        refine lv_bipush (v := (-6 : Int32)) hx hb dX5_writtenAt_32 (by decide) ?_
        exact fin' _ hf 34 ls H locs dX5_writtenAt_34 rfl hP hD hS
      · have hf := if_f c_19 hf
        refine lv_aload_n hx hb dX5_writtenAt_22 rfl (lv_at hl 0 rfl) ?_
        refine gf_X5_48 X hP 0 rfl rfl dX5_writtenAt_23 ?_
        refine gf_X5_176 X hP 3 rfl rfl dX5_writtenAt_26 ?_
        refine lv_if_ne (tgt := 35) hx hb dX5_writtenAt_29 (by decide) (fun c_29 => ?_) (fun c_29 => ?_)
        · have hf := if_f c_29 hf
          refine lv_aload_n hx hb dX5_writtenAt_35 rfl (lv_at hl 0 rfl) ?_
          refine gf_X5_48 X hP 0 rfl rfl dX5_writtenAt_36 ?_
          refine gf_X5_238 X hP 3 rfl rfl dX5_writtenAt_39 ?_
          refine lv_iload_n hx hb dX5_writtenAt_42 rfl (lv_at hl 1 rfl) ?_
          obtain ⟨hi43, hf⟩ := ck_some hf
          refine r_iald X hP 4 rfl hi43 dX5_writtenAt_43 ?_
          exact fin' _ hf 44 ls H locs dX5_writtenAt_44 rfl hP hD hS
        · have hf := if_t c_29 hf
          refine lv_bipush (v := (-6 : Int32)) hx hb dX5_writtenAt_32 (by decide) ?_
          exact fin' _ hf 34 ls H locs dX5_writtenAt_34 rfl hP hD hS
abbrev wd_X5_seen (E : EN) (a_t : Nat) (a_t_table : Nat) (a_t_table_sightFrom : Nat) (a_t_table_sightOut : Nat) (w_t_pad : Value) (x_t_signs : Int32) (w_t_images : Value) (w_t_pack : Value) (w_t_row : Value) (w_t_chances : Value) (w_t_writing : Value) (w_t_guess : Value) (w_t_table_text : Value) (w_t_table_weights : Value) (x_t_table_places : Int32) (x_t_table_beginnings : Int32) (x_t_table_courtCount : Int32) (x_t_table_allowed : Int32) (x_t_table_sights : Int32) (x_t_table_kept : Int32) (x_t_table_sightFrom : Nat → Int32) (x_t_table_sightOut : Nat → Int32) : va_W := [(a_t, e_O 5 [w_t_pad, .int x_t_signs, .ref a_t_table, w_t_images, w_t_pack, w_t_row, w_t_chances, w_t_writing, w_t_guess]), (a_t_table, e_O 3 [w_t_table_text, w_t_table_weights, .ref a_t_table_sightFrom, .ref a_t_table_sightOut, .int x_t_table_places, .int x_t_table_beginnings, .int x_t_table_courtCount, .int x_t_table_allowed, .int x_t_table_sights, .int x_t_table_kept]), (a_t_table_sightFrom, e_I E 6 x_t_table_sightFrom), (a_t_table_sightOut, e_I E 6 x_t_table_sightOut)]
def f_X5_seen (p1 : Int32) (p2 : Int32) (x_t_table_places : Int32) (x_t_table_sights : Int32) (x_t_table_sightFrom : Nat → Int32) (x_t_table_sightOut : Nat → Int32) : Option (Int32 × Int32 × (Nat → Int32) × (Nat → Int32)) :=
  Option.bind (f_X3_has p1 x_t_table_places) (fun r5 =>
  if r5 = 0 then
    some ((-1 : Int32), x_t_table_sights, x_t_table_sightFrom, x_t_table_sightOut)
  else
    Option.bind (f_X3_has p2 x_t_table_places) (fun r16 =>
    if r16 = 0 then
      some ((-1 : Int32), x_t_table_sights, x_t_table_sightFrom, x_t_table_sightOut)
    else
      if x_t_table_sights < (6 : Int32) then
        ck (inB x_t_table_sights 6) (
        some ((x_t_table_sights + (1 : Int32)), (x_t_table_sights + (1 : Int32)), (upd x_t_table_sightFrom (ix x_t_table_sights) p1), (upd x_t_table_sightOut (ix x_t_table_sights) p2)))
      else
        some ((-4 : Int32), x_t_table_sights, x_t_table_sightFrom, x_t_table_sightOut)))
set_option maxHeartbeats 4000000 in
set_option maxRecDepth 100000 in
theorem c_X5_seen (l : Launch) (E : EN) (a_t a_t_table a_t_table_sightFrom a_t_table_sightOut : Nat) (w_t_pad : Value) (x_t_signs : Int32) (w_t_images : Value) (w_t_pack : Value) (w_t_row : Value) (w_t_chances : Value) (w_t_writing : Value) (w_t_guess : Value) (w_t_table_text : Value) (w_t_table_weights : Value) (x_t_table_places : Int32) (x_t_table_beginnings : Int32) (x_t_table_courtCount : Int32) (x_t_table_allowed : Int32) (x_t_table_sights : Int32) (x_t_table_kept : Int32) (x_t_table_sightFrom : Nat → Int32) (x_t_table_sightOut : Nat → Int32) (p1 : Int32) (p2 : Int32) (res : Int32 × Int32 × (Nat → Int32) × (Nat → Int32)) (hf : f_X5_seen p1 p2 x_t_table_places x_t_table_sights x_t_table_sightFrom x_t_table_sightOut = some res) : CtI l yX5_seen cX5_seen 3 .int 1 21 E [.ref a_t, .int p1, .int p2] (wd_X5_seen E a_t a_t_table a_t_table_sightFrom a_t_table_sightOut w_t_pad x_t_signs w_t_images w_t_pack w_t_row w_t_chances w_t_writing w_t_guess w_t_table_text w_t_table_weights x_t_table_places x_t_table_beginnings x_t_table_courtCount x_t_table_allowed x_t_table_sights x_t_table_kept x_t_table_sightFrom x_t_table_sightOut) (wd_X5_seen E a_t a_t_table a_t_table_sightFrom a_t_table_sightOut w_t_pad x_t_signs w_t_images w_t_pack w_t_row w_t_chances w_t_writing w_t_guess w_t_table_text w_t_table_weights x_t_table_places x_t_table_beginnings x_t_table_courtCount x_t_table_allowed res.2.1 x_t_table_kept res.2.2.1 res.2.2.2) res.1 := by
  refine CtI.of RX5 (by decide) rfl (Nat.le_of_ble_eq_true rfl) ?_
  intro p e s m below meth c A Q ls X hA hP hD hl fin
  have hx := X.1
  have hb := X.2.1
  have hl : lv_has ls 3 [(0, .ref a_t), (1, .int p1), (2, .int p2)] := hl
  have fin' : ∀ (fr0 : Int32) (fr1 : Int32) (fr2 : (Nat → Int32)) (fr3 : (Nat → Int32)), some (fr0, fr1, fr2, fr3) = some res → ∀ (pc : Nat) (ls : Array Slot) (H : Heap) (locs : List Loc), decode cX5_seen pc = .ok (.ireturn, 1) → narrow .int (.int fr0) = .int fr0 → va_P E.1 vwCl (wd_X5_seen E a_t a_t_table a_t_table_sightFrom a_t_table_sightOut w_t_pad x_t_signs w_t_images w_t_pack w_t_row w_t_chances w_t_writing w_t_guess w_t_table_text w_t_table_weights x_t_table_places x_t_table_beginnings x_t_table_courtCount x_t_table_allowed fr1 x_t_table_kept fr2 fr3) H → va_D A (wd_X5_seen E a_t a_t_table a_t_table_sightFrom a_t_table_sightOut w_t_pad x_t_signs w_t_images w_t_pack w_t_row w_t_chances w_t_writing w_t_guess w_t_table_text w_t_table_weights x_t_table_places x_t_table_beginnings x_t_table_courtCount x_t_table_allowed fr1 x_t_table_kept fr2 fr3) → va_S A s.heap H locs → W p l e (rmm 1 21) s m ([.ref a_t, .int p1, .int p2] : List Value).toArray below meth c H locs 0 0 Q (F0 m pc ls [.int fr0]) := by
    intro fr0 fr1 fr2 fr3 he
    cases he
    exact fin
  have hS : va_S A s.heap s.heap [] := va_S.rf
  obtain ⟨H, hH9⟩ : ∃ z, z = s.heap := ⟨_, rfl⟩
  obtain ⟨locs, hL9⟩ : ∃ z : List Loc, z = [] := ⟨_, rfl⟩
  rw [← hL9]
  rw [← hL9] at hS
  have hP : va_P E.1 vwCl (wd_X5_seen E a_t a_t_table a_t_table_sightFrom a_t_table_sightOut w_t_pad x_t_signs w_t_images w_t_pack w_t_row w_t_chances w_t_writing w_t_guess w_t_table_text w_t_table_weights x_t_table_places x_t_table_beginnings x_t_table_courtCount x_t_table_allowed x_t_table_sights x_t_table_kept x_t_table_sightFrom x_t_table_sightOut) H := by rw [hH9]; exact hP
  have hS : va_S A s.heap H locs := by rw [hH9]; exact hS
  suffices hgoal : W p l e (rmm 1 21) s m ([.ref a_t, .int p1, .int p2] : List Value).toArray below meth c H locs 0 0 Q (F0 m 0 ls []) by rw [hH9] at hgoal; exact hgoal
  rw [f_X5_seen] at hf
  refine lv_aload_n hx hb dX5_seen_0 rfl (lv_at hl 0 rfl) ?_
  refine gf_X5_20 X hP 0 rfl rfl dX5_seen_1 ?_
  refine lv_iload_n hx hb dX5_seen_4 rfl (lv_at hl 1 rfl) ?_
  obtain ⟨r5, hc5, hf⟩ := bd_some hf
  refine cV_I X hA hP hD hS hl.1 (c_X3_has l E a_t_table w_t_table_text w_t_table_weights (.ref a_t_table_sightFrom) (.ref a_t_table_sightOut) x_t_table_places x_t_table_beginnings x_t_table_courtCount x_t_table_allowed x_t_table_sights x_t_table_kept p1 r5 hc5) 1 k_368 mw_X3_has hd_X3_has ⟨Nat.le_of_ble_eq_true rfl, Nat.le_of_ble_eq_true rfl⟩ [1] [0, 2, 3] [0, 3, 1, 2] rfl rfl (wr := [0, 2, 3].filterMap (fun i => (wd_X5_seen E a_t a_t_table a_t_table_sightFrom a_t_table_sightOut w_t_pad x_t_signs w_t_images w_t_pack w_t_row w_t_chances w_t_writing w_t_guess w_t_table_text w_t_table_weights x_t_table_places x_t_table_beginnings x_t_table_courtCount x_t_table_allowed x_t_table_sights x_t_table_kept x_t_table_sightFrom x_t_table_sightOut)[i]?)) rfl rfl rfl 3 0 rfl rfl rfl rfl rfl (Nat.le_of_ble_eq_true rfl) rfl (ws' := (wd_X5_seen E a_t a_t_table a_t_table_sightFrom a_t_table_sightOut w_t_pad x_t_signs w_t_images w_t_pack w_t_row w_t_chances w_t_writing w_t_guess w_t_table_text w_t_table_weights x_t_table_places x_t_table_beginnings x_t_table_courtCount x_t_table_allowed x_t_table_sights x_t_table_kept x_t_table_sightFrom x_t_table_sightOut)) rfl ⟨Nat.le_of_ble_eq_true rfl, Nat.le_of_ble_eq_true rfl⟩ dX5_seen_5 (fun H locs hP hD hS => ?_)
  refine lv_if_eq (tgt := 22) hx hb dX5_seen_8 (by decide) (fun c_8 => ?_) (fun c_8 => ?_)
  · have hf := if_t c_8 hf
    refine lv_iconst (v := (-1 : Int32)) hx hb dX5_seen_22 (by decide) ?_
    exact fin' _ _ _ _ hf 23 ls H locs dX5_seen_23 rfl hP hD hS
  · have hf := if_f c_8 hf
    refine lv_aload_n hx hb dX5_seen_11 rfl (lv_at hl 0 rfl) ?_
    refine gf_X5_20 X hP 0 rfl rfl dX5_seen_12 ?_
    refine lv_iload_n hx hb dX5_seen_15 rfl (lv_at hl 2 rfl) ?_
    obtain ⟨r16, hc16, hf⟩ := bd_some hf
    refine cV_I X hA hP hD hS hl.1 (c_X3_has l E a_t_table w_t_table_text w_t_table_weights (.ref a_t_table_sightFrom) (.ref a_t_table_sightOut) x_t_table_places x_t_table_beginnings x_t_table_courtCount x_t_table_allowed x_t_table_sights x_t_table_kept p2 r16 hc16) 1 k_368 mw_X3_has hd_X3_has ⟨Nat.le_of_ble_eq_true rfl, Nat.le_of_ble_eq_true rfl⟩ [1] [0, 2, 3] [0, 3, 1, 2] rfl rfl (wr := [0, 2, 3].filterMap (fun i => (wd_X5_seen E a_t a_t_table a_t_table_sightFrom a_t_table_sightOut w_t_pad x_t_signs w_t_images w_t_pack w_t_row w_t_chances w_t_writing w_t_guess w_t_table_text w_t_table_weights x_t_table_places x_t_table_beginnings x_t_table_courtCount x_t_table_allowed x_t_table_sights x_t_table_kept x_t_table_sightFrom x_t_table_sightOut)[i]?)) rfl rfl rfl 3 0 rfl rfl rfl rfl rfl (Nat.le_of_ble_eq_true rfl) rfl (ws' := (wd_X5_seen E a_t a_t_table a_t_table_sightFrom a_t_table_sightOut w_t_pad x_t_signs w_t_images w_t_pack w_t_row w_t_chances w_t_writing w_t_guess w_t_table_text w_t_table_weights x_t_table_places x_t_table_beginnings x_t_table_courtCount x_t_table_allowed x_t_table_sights x_t_table_kept x_t_table_sightFrom x_t_table_sightOut)) rfl ⟨Nat.le_of_ble_eq_true rfl, Nat.le_of_ble_eq_true rfl⟩ dX5_seen_16 (fun H locs hP hD hS => ?_)
    refine lv_if_ne (tgt := 24) hx hb dX5_seen_19 (by decide) (fun c_19 => ?_) (fun c_19 => ?_)
    · have hf := if_f c_19 hf
      refine lv_aload_n hx hb dX5_seen_24 rfl (lv_at hl 0 rfl) ?_
      refine gf_X5_20 X hP 0 rfl rfl dX5_seen_25 ?_
      refine gf_X5_186 X hP 1 rfl rfl dX5_seen_28 ?_
      refine lv_bipush (v := (6 : Int32)) hx hb dX5_seen_31 (by decide) ?_
      refine lv_icmp_lt (tgt := 39) hx hb dX5_seen_33 (by decide) (fun c_33 => ?_) (fun c_33 => ?_)
      · have hf := if_t c_33 hf
        refine lv_aload_n hx hb dX5_seen_39 rfl (lv_at hl 0 rfl) ?_
        refine gf_X5_20 X hP 0 rfl rfl dX5_seen_40 ?_
        refine gf_X5_189 X hP 1 rfl rfl dX5_seen_43 ?_
        refine lv_aload_n hx hb dX5_seen_46 rfl (lv_at hl 0 rfl) ?_
        refine gf_X5_20 X hP 0 rfl rfl dX5_seen_47 ?_
        refine gf_X5_186 X hP 1 rfl rfl dX5_seen_50 ?_
        refine lv_iload_n hx hb dX5_seen_53 rfl (lv_at hl 1 rfl) ?_
        obtain ⟨hi54, hf⟩ := ck_some hf
        refine r_iast X hP hD hS 2 rfl hi54 (ws' := (wd_X5_seen E a_t a_t_table a_t_table_sightFrom a_t_table_sightOut w_t_pad x_t_signs w_t_images w_t_pack w_t_row w_t_chances w_t_writing w_t_guess w_t_table_text w_t_table_weights x_t_table_places x_t_table_beginnings x_t_table_courtCount x_t_table_allowed x_t_table_sights x_t_table_kept (upd x_t_table_sightFrom (ix x_t_table_sights) p1) x_t_table_sightOut)) rfl dX5_seen_54 (fun H locs hP hD hS => ?_)
        refine lv_aload_n hx hb dX5_seen_55 rfl (lv_at hl 0 rfl) ?_
        refine gf_X5_20 X hP 0 rfl rfl dX5_seen_56 ?_
        refine gf_X5_192 X hP 1 rfl rfl dX5_seen_59 ?_
        refine lv_aload_n hx hb dX5_seen_62 rfl (lv_at hl 0 rfl) ?_
        refine gf_X5_20 X hP 0 rfl rfl dX5_seen_63 ?_
        refine gf_X5_186 X hP 1 rfl rfl dX5_seen_66 ?_
        refine lv_iload_n hx hb dX5_seen_69 rfl (lv_at hl 2 rfl) ?_
        refine r_iast X hP hD hS 3 rfl hi54 (ws' := (wd_X5_seen E a_t a_t_table a_t_table_sightFrom a_t_table_sightOut w_t_pad x_t_signs w_t_images w_t_pack w_t_row w_t_chances w_t_writing w_t_guess w_t_table_text w_t_table_weights x_t_table_places x_t_table_beginnings x_t_table_courtCount x_t_table_allowed x_t_table_sights x_t_table_kept (upd x_t_table_sightFrom (ix x_t_table_sights) p1) (upd x_t_table_sightOut (ix x_t_table_sights) p2))) rfl dX5_seen_70 (fun H locs hP hD hS => ?_)
        refine lv_aload_n hx hb dX5_seen_71 rfl (lv_at hl 0 rfl) ?_
        refine gf_X5_20 X hP 0 rfl rfl dX5_seen_72 ?_
        refine lv_dup hx hb dX5_seen_75 rfl ?_
        refine gf_X5_186 X hP 1 rfl rfl dX5_seen_76 ?_
        refine lv_iconst (v := (1 : Int32)) hx hb dX5_seen_79 (by decide) ?_
        refine lv_iadd hx hb dX5_seen_80 ?_
        refine pf_X5_186 X hP hD hS 1 rfl (Nat.le_of_ble_eq_true rfl) (ws' := (wd_X5_seen E a_t a_t_table a_t_table_sightFrom a_t_table_sightOut w_t_pad x_t_signs w_t_images w_t_pack w_t_row w_t_chances w_t_writing w_t_guess w_t_table_text w_t_table_weights x_t_table_places x_t_table_beginnings x_t_table_courtCount x_t_table_allowed (x_t_table_sights + (1 : Int32)) x_t_table_kept (upd x_t_table_sightFrom (ix x_t_table_sights) p1) (upd x_t_table_sightOut (ix x_t_table_sights) p2))) rfl dX5_seen_81 (fun H locs hP hD hS => ?_)
        refine lv_aload_n hx hb dX5_seen_84 rfl (lv_at hl 0 rfl) ?_
        refine gf_X5_20 X hP 0 rfl rfl dX5_seen_85 ?_
        refine gf_X5_186 X hP 1 rfl rfl dX5_seen_88 ?_
        exact fin' _ _ _ _ hf 91 ls H locs dX5_seen_91 rfl hP hD hS
      · have hf := if_f c_33 hf
        refine lv_bipush (v := (-4 : Int32)) hx hb dX5_seen_36 (by decide) ?_
        exact fin' _ _ _ _ hf 38 ls H locs dX5_seen_38 rfl hP hD hS
    · have hf := if_t c_19 hf
      refine lv_iconst (v := (-1 : Int32)) hx hb dX5_seen_22 (by decide) ?_
      exact fin' _ _ _ _ hf 23 ls H locs dX5_seen_23 rfl hP hD hS
abbrev wd_X5_forget (E : EN) (a_t : Nat) (a_t_table : Nat) (w_t_pad : Value) (x_t_signs : Int32) (w_t_images : Value) (w_t_pack : Value) (w_t_row : Value) (w_t_chances : Value) (w_t_writing : Value) (w_t_guess : Value) (w_t_table_text : Value) (w_t_table_weights : Value) (w_t_table_sightFrom : Value) (w_t_table_sightOut : Value) (x_t_table_places : Int32) (x_t_table_beginnings : Int32) (x_t_table_courtCount : Int32) (x_t_table_allowed : Int32) (x_t_table_sights : Int32) (x_t_table_kept : Int32) : va_W := [(a_t, e_O 5 [w_t_pad, .int x_t_signs, .ref a_t_table, w_t_images, w_t_pack, w_t_row, w_t_chances, w_t_writing, w_t_guess]), (a_t_table, e_O 3 [w_t_table_text, w_t_table_weights, w_t_table_sightFrom, w_t_table_sightOut, .int x_t_table_places, .int x_t_table_beginnings, .int x_t_table_courtCount, .int x_t_table_allowed, .int x_t_table_sights, .int x_t_table_kept])]
def f_X5_forget (x_t_table_sights : Int32) : Option (Int32 × Int32) :=
  some (x_t_table_sights, (0 : Int32))
set_option maxHeartbeats 4000000 in
set_option maxRecDepth 100000 in
theorem c_X5_forget (l : Launch) (E : EN) (a_t a_t_table : Nat) (w_t_pad : Value) (x_t_signs : Int32) (w_t_images : Value) (w_t_pack : Value) (w_t_row : Value) (w_t_chances : Value) (w_t_writing : Value) (w_t_guess : Value) (w_t_table_text : Value) (w_t_table_weights : Value) (w_t_table_sightFrom : Value) (w_t_table_sightOut : Value) (x_t_table_places : Int32) (x_t_table_beginnings : Int32) (x_t_table_courtCount : Int32) (x_t_table_allowed : Int32) (x_t_table_sights : Int32) (x_t_table_kept : Int32)  (res : Int32 × Int32) (hf : f_X5_forget x_t_table_sights = some res) : CtI l yX5_forget cX5_forget 2 .int 0 0 E [.ref a_t] (wd_X5_forget E a_t a_t_table w_t_pad x_t_signs w_t_images w_t_pack w_t_row w_t_chances w_t_writing w_t_guess w_t_table_text w_t_table_weights w_t_table_sightFrom w_t_table_sightOut x_t_table_places x_t_table_beginnings x_t_table_courtCount x_t_table_allowed x_t_table_sights x_t_table_kept) (wd_X5_forget E a_t a_t_table w_t_pad x_t_signs w_t_images w_t_pack w_t_row w_t_chances w_t_writing w_t_guess w_t_table_text w_t_table_weights w_t_table_sightFrom w_t_table_sightOut x_t_table_places x_t_table_beginnings x_t_table_courtCount x_t_table_allowed res.2 x_t_table_kept) res.1 := by
  refine CtI.of RX5 (by decide) rfl (Nat.le_of_ble_eq_true rfl) ?_
  intro p e s m below meth c A Q ls X hA hP hD hl fin
  have hx := X.1
  have hb := X.2.1
  have hl : lv_has ls 2 [(0, .ref a_t)] := hl
  have fin' : ∀ (fr0 : Int32) (fr1 : Int32), some (fr0, fr1) = some res → ∀ (pc : Nat) (ls : Array Slot) (H : Heap) (locs : List Loc), decode cX5_forget pc = .ok (.ireturn, 1) → narrow .int (.int fr0) = .int fr0 → va_P E.1 vwCl (wd_X5_forget E a_t a_t_table w_t_pad x_t_signs w_t_images w_t_pack w_t_row w_t_chances w_t_writing w_t_guess w_t_table_text w_t_table_weights w_t_table_sightFrom w_t_table_sightOut x_t_table_places x_t_table_beginnings x_t_table_courtCount x_t_table_allowed fr1 x_t_table_kept) H → va_D A (wd_X5_forget E a_t a_t_table w_t_pad x_t_signs w_t_images w_t_pack w_t_row w_t_chances w_t_writing w_t_guess w_t_table_text w_t_table_weights w_t_table_sightFrom w_t_table_sightOut x_t_table_places x_t_table_beginnings x_t_table_courtCount x_t_table_allowed fr1 x_t_table_kept) → va_S A s.heap H locs → W p l e (rmm 0 0) s m ([.ref a_t] : List Value).toArray below meth c H locs 0 0 Q (F0 m pc ls [.int fr0]) := by
    intro fr0 fr1 he
    cases he
    exact fin
  have hS : va_S A s.heap s.heap [] := va_S.rf
  obtain ⟨H, hH9⟩ : ∃ z, z = s.heap := ⟨_, rfl⟩
  obtain ⟨locs, hL9⟩ : ∃ z : List Loc, z = [] := ⟨_, rfl⟩
  rw [← hL9]
  rw [← hL9] at hS
  have hP : va_P E.1 vwCl (wd_X5_forget E a_t a_t_table w_t_pad x_t_signs w_t_images w_t_pack w_t_row w_t_chances w_t_writing w_t_guess w_t_table_text w_t_table_weights w_t_table_sightFrom w_t_table_sightOut x_t_table_places x_t_table_beginnings x_t_table_courtCount x_t_table_allowed x_t_table_sights x_t_table_kept) H := by rw [hH9]; exact hP
  have hS : va_S A s.heap H locs := by rw [hH9]; exact hS
  suffices hgoal : W p l e (rmm 0 0) s m ([.ref a_t] : List Value).toArray below meth c H locs 0 0 Q (F0 m 0 ls []) by rw [hH9] at hgoal; exact hgoal
  rw [f_X5_forget] at hf
  refine lv_aload_n hx hb dX5_forget_0 rfl (lv_at hl 0 rfl) ?_
  refine gf_X5_20 X hP 0 rfl rfl dX5_forget_1 ?_
  refine gf_X5_186 X hP 1 rfl rfl dX5_forget_4 ?_
  refine lv_istore_n (lv' := [(1, .int x_t_table_sights), (0, .ref a_t)]) hx hb dX5_forget_7 rfl hl (by decide) rfl (fun ls hl => ?_)
  refine lv_aload_n hx hb dX5_forget_8 rfl (lv_at hl 1 rfl) ?_
  refine gf_X5_20 X hP 0 rfl rfl dX5_forget_9 ?_
  refine lv_iconst (v := (0 : Int32)) hx hb dX5_forget_12 (by decide) ?_
  refine pf_X5_186 X hP hD hS 1 rfl (Nat.le_of_ble_eq_true rfl) (ws' := (wd_X5_forget E a_t a_t_table w_t_pad x_t_signs w_t_images w_t_pack w_t_row w_t_chances w_t_writing w_t_guess w_t_table_text w_t_table_weights w_t_table_sightFrom w_t_table_sightOut x_t_table_places x_t_table_beginnings x_t_table_courtCount x_t_table_allowed (0 : Int32) x_t_table_kept)) rfl dX5_forget_13 (fun H locs hP hD hS => ?_)
  refine lv_iload_n hx hb dX5_forget_16 rfl (lv_at hl 0 rfl) ?_
  exact fin' _ _ hf 17 ls H locs dX5_forget_17 rfl hP hD hS
abbrev wd_X5_shuffle (E : EN) (a_t : Nat) (a_t_table : Nat) (a_t_table_text : Nat) (w_t_pad : Value) (x_t_signs : Int32) (w_t_images : Value) (w_t_pack : Value) (w_t_row : Value) (w_t_chances : Value) (w_t_writing : Value) (w_t_guess : Value) (w_t_table_weights : Value) (w_t_table_sightFrom : Value) (w_t_table_sightOut : Value) (x_t_table_places : Int32) (x_t_table_beginnings : Int32) (x_t_table_courtCount : Int32) (x_t_table_allowed : Int32) (x_t_table_sights : Int32) (x_t_table_kept : Int32) (x_t_table_text : Nat → Int32) : va_W := [(a_t, e_O 5 [w_t_pad, .int x_t_signs, .ref a_t_table, w_t_images, w_t_pack, w_t_row, w_t_chances, w_t_writing, w_t_guess]), (a_t_table, e_O 3 [.ref a_t_table_text, w_t_table_weights, w_t_table_sightFrom, w_t_table_sightOut, .int x_t_table_places, .int x_t_table_beginnings, .int x_t_table_courtCount, .int x_t_table_allowed, .int x_t_table_sights, .int x_t_table_kept]), (a_t_table_text, e_C E 40 x_t_table_text)]
def f_X5_shuffle (p1 : Int32) (x_t_table_places : Int32) (x_t_table_text : Nat → Int32) : Option (Int32 × (Nat → Int32)) :=
  if p1 < 0 then
    some ((-2 : Int32), x_t_table_text)
  else
    if p1 ≤ (9999 : Int32) then
      Option.bind (f_X5_mix x_t_table_places p1 x_t_table_text) (fun r29 =>
      some (x_t_table_places, r29))
    else
      some ((-2 : Int32), x_t_table_text)
set_option maxHeartbeats 4000000 in
set_option maxRecDepth 100000 in
theorem c_X5_shuffle (l : Launch) (E : EN) (a_t a_t_table a_t_table_text : Nat) (w_t_pad : Value) (x_t_signs : Int32) (w_t_images : Value) (w_t_pack : Value) (w_t_row : Value) (w_t_chances : Value) (w_t_writing : Value) (w_t_guess : Value) (w_t_table_weights : Value) (w_t_table_sightFrom : Value) (w_t_table_sightOut : Value) (x_t_table_places : Int32) (x_t_table_beginnings : Int32) (x_t_table_courtCount : Int32) (x_t_table_allowed : Int32) (x_t_table_sights : Int32) (x_t_table_kept : Int32) (x_t_table_text : Nat → Int32) (p1 : Int32) (res : Int32 × (Nat → Int32)) (hf : f_X5_shuffle p1 x_t_table_places x_t_table_text = some res) : CtI l yX5_shuffle cX5_shuffle 2 .int 1 26 E [.ref a_t, .int p1] (wd_X5_shuffle E a_t a_t_table a_t_table_text w_t_pad x_t_signs w_t_images w_t_pack w_t_row w_t_chances w_t_writing w_t_guess w_t_table_weights w_t_table_sightFrom w_t_table_sightOut x_t_table_places x_t_table_beginnings x_t_table_courtCount x_t_table_allowed x_t_table_sights x_t_table_kept x_t_table_text) (wd_X5_shuffle E a_t a_t_table a_t_table_text w_t_pad x_t_signs w_t_images w_t_pack w_t_row w_t_chances w_t_writing w_t_guess w_t_table_weights w_t_table_sightFrom w_t_table_sightOut x_t_table_places x_t_table_beginnings x_t_table_courtCount x_t_table_allowed x_t_table_sights x_t_table_kept res.2) res.1 := by
  refine CtI.of RX5 (by decide) rfl (Nat.le_of_ble_eq_true rfl) ?_
  intro p e s m below meth c A Q ls X hA hP hD hl fin
  have hx := X.1
  have hb := X.2.1
  have hl : lv_has ls 2 [(0, .ref a_t), (1, .int p1)] := hl
  have fin' : ∀ (fr0 : Int32) (fr1 : (Nat → Int32)), some (fr0, fr1) = some res → ∀ (pc : Nat) (ls : Array Slot) (H : Heap) (locs : List Loc), decode cX5_shuffle pc = .ok (.ireturn, 1) → narrow .int (.int fr0) = .int fr0 → va_P E.1 vwCl (wd_X5_shuffle E a_t a_t_table a_t_table_text w_t_pad x_t_signs w_t_images w_t_pack w_t_row w_t_chances w_t_writing w_t_guess w_t_table_weights w_t_table_sightFrom w_t_table_sightOut x_t_table_places x_t_table_beginnings x_t_table_courtCount x_t_table_allowed x_t_table_sights x_t_table_kept fr1) H → va_D A (wd_X5_shuffle E a_t a_t_table a_t_table_text w_t_pad x_t_signs w_t_images w_t_pack w_t_row w_t_chances w_t_writing w_t_guess w_t_table_weights w_t_table_sightFrom w_t_table_sightOut x_t_table_places x_t_table_beginnings x_t_table_courtCount x_t_table_allowed x_t_table_sights x_t_table_kept fr1) → va_S A s.heap H locs → W p l e (rmm 1 26) s m ([.ref a_t, .int p1] : List Value).toArray below meth c H locs 0 0 Q (F0 m pc ls [.int fr0]) := by
    intro fr0 fr1 he
    cases he
    exact fin
  have hS : va_S A s.heap s.heap [] := va_S.rf
  obtain ⟨H, hH9⟩ : ∃ z, z = s.heap := ⟨_, rfl⟩
  obtain ⟨locs, hL9⟩ : ∃ z : List Loc, z = [] := ⟨_, rfl⟩
  rw [← hL9]
  rw [← hL9] at hS
  have hP : va_P E.1 vwCl (wd_X5_shuffle E a_t a_t_table a_t_table_text w_t_pad x_t_signs w_t_images w_t_pack w_t_row w_t_chances w_t_writing w_t_guess w_t_table_weights w_t_table_sightFrom w_t_table_sightOut x_t_table_places x_t_table_beginnings x_t_table_courtCount x_t_table_allowed x_t_table_sights x_t_table_kept x_t_table_text) H := by rw [hH9]; exact hP
  have hS : va_S A s.heap H locs := by rw [hH9]; exact hS
  suffices hgoal : W p l e (rmm 1 26) s m ([.ref a_t, .int p1] : List Value).toArray below meth c H locs 0 0 Q (F0 m 0 ls []) by rw [hH9] at hgoal; exact hgoal
  rw [f_X5_shuffle] at hf
  refine lv_iload_n hx hb dX5_shuffle_0 rfl (lv_at hl 1 rfl) ?_
  refine lv_if_lt (tgt := 11) hx hb dX5_shuffle_1 (by decide) (fun c_1 => ?_) (fun c_1 => ?_)
  · have hf := if_t c_1 hf
    refine lv_bipush (v := (-2 : Int32)) hx hb dX5_shuffle_11 (by decide) ?_
    exact fin' _ _ hf 13 ls H locs dX5_shuffle_13 rfl hP hD hS
  · have hf := if_f c_1 hf
    refine lv_iload_n hx hb dX5_shuffle_4 rfl (lv_at hl 1 rfl) ?_
    refine lv_sipush (v := (9999 : Int32)) hx hb dX5_shuffle_5 (by decide) ?_
    refine lv_icmp_le (tgt := 14) hx hb dX5_shuffle_8 (by decide) (fun c_8 => ?_) (fun c_8 => ?_)
    · have hf := if_t c_8 hf
      refine lv_aload_n hx hb dX5_shuffle_14 rfl (lv_at hl 0 rfl) ?_
      refine gf_X5_20 X hP 0 rfl rfl dX5_shuffle_15 ?_
      refine gf_X5_93 X hP 1 rfl rfl dX5_shuffle_18 ?_
      refine lv_aload_n hx hb dX5_shuffle_21 rfl (lv_at hl 0 rfl) ?_
      refine gf_X5_20 X hP 0 rfl rfl dX5_shuffle_22 ?_
      refine gf_X5_67 X hP 1 rfl rfl dX5_shuffle_25 ?_
      refine lv_iload_n hx hb dX5_shuffle_28 rfl (lv_at hl 1 rfl) ?_
      obtain ⟨r29, hc29, hf⟩ := bd_some hf
      refine cS_V X hA hP hD hS hl.1 (c_X5_mix l E a_t_table_text x_t_table_text x_t_table_places p1 r29 hc29) 3 k_601 mw_X5_mix hd_X5_mix ⟨Nat.le_of_ble_eq_true rfl, Nat.le_of_ble_eq_true rfl⟩ [2] [0, 1] [0, 1, 2] rfl rfl (wr := [0, 1].filterMap (fun i => (wd_X5_shuffle E a_t a_t_table a_t_table_text w_t_pad x_t_signs w_t_images w_t_pack w_t_row w_t_chances w_t_writing w_t_guess w_t_table_weights w_t_table_sightFrom w_t_table_sightOut x_t_table_places x_t_table_beginnings x_t_table_courtCount x_t_table_allowed x_t_table_sights x_t_table_kept x_t_table_text)[i]?)) rfl rfl rfl rfl rfl (Nat.le_of_ble_eq_true rfl) rfl (ws' := (wd_X5_shuffle E a_t a_t_table a_t_table_text w_t_pad x_t_signs w_t_images w_t_pack w_t_row w_t_chances w_t_writing w_t_guess w_t_table_weights w_t_table_sightFrom w_t_table_sightOut x_t_table_places x_t_table_beginnings x_t_table_courtCount x_t_table_allowed x_t_table_sights x_t_table_kept r29)) rfl ⟨Nat.le_of_ble_eq_true rfl, Nat.le_of_ble_eq_true rfl⟩ dX5_shuffle_29 (fun H locs hP hD hS => ?_)
      refine lv_aload_n hx hb dX5_shuffle_32 rfl (lv_at hl 0 rfl) ?_
      refine gf_X5_20 X hP 0 rfl rfl dX5_shuffle_33 ?_
      refine gf_X5_67 X hP 1 rfl rfl dX5_shuffle_36 ?_
      exact fin' _ _ hf 39 ls H locs dX5_shuffle_39 rfl hP hD hS
    · have hf := if_f c_8 hf
      refine lv_bipush (v := (-2 : Int32)) hx hb dX5_shuffle_11 (by decide) ?_
      exact fin' _ _ hf 13 ls H locs dX5_shuffle_13 rfl hP hD hS
abbrev wd_X5_wrong (E : EN) (a_t : Nat) (a_t_table : Nat) (a_t_table_text : Nat) (a_t_pack : Nat) (a_t_row : Nat) (a_t_row_counts : Nat) (a_t_row_ends : Nat) (a_t_row_comers : Nat) (a_t_row_leaders : Nat) (a_t_row_chains : Nat) (w_t_pad : Value) (x_t_signs : Int32) (w_t_images : Value) (w_t_chances : Value) (w_t_writing : Value) (w_t_guess : Value) (w_t_table_weights : Value) (w_t_table_sightFrom : Value) (w_t_table_sightOut : Value) (x_t_table_places : Int32) (x_t_table_beginnings : Int32) (x_t_table_courtCount : Int32) (x_t_table_allowed : Int32) (x_t_table_sights : Int32) (x_t_table_kept : Int32) (x_t_table_text : Nat → Int32) (x_t_pack : Nat → Int32) (x_t_row_places : Int32) (x_t_row_beginnings : Int32) (x_t_row_counts : Nat → Int32) (x_t_row_ends : Nat → Int32) (x_t_row_comers : Nat → Int32) (x_t_row_leaders : Nat → Int32) (x_t_row_chains : Nat → Int32) : va_W := [(a_t, e_O 5 [w_t_pad, .int x_t_signs, .ref a_t_table, w_t_images, .ref a_t_pack, .ref a_t_row, w_t_chances, w_t_writing, w_t_guess]), (a_t_table, e_O 3 [.ref a_t_table_text, w_t_table_weights, w_t_table_sightFrom, w_t_table_sightOut, .int x_t_table_places, .int x_t_table_beginnings, .int x_t_table_courtCount, .int x_t_table_allowed, .int x_t_table_sights, .int x_t_table_kept]), (a_t_table_text, e_C E 40 x_t_table_text), (a_t_pack, e_C E 40 x_t_pack), (a_t_row, e_O 2 [.ref a_t_row_counts, .ref a_t_row_ends, .ref a_t_row_comers, .ref a_t_row_leaders, .ref a_t_row_chains, .int x_t_row_places, .int x_t_row_beginnings]), (a_t_row_counts, e_I E 40 x_t_row_counts), (a_t_row_ends, e_I E 40 x_t_row_ends), (a_t_row_comers, e_I E 40 x_t_row_comers), (a_t_row_leaders, e_I E 40 x_t_row_leaders), (a_t_row_chains, e_I E 40 x_t_row_chains)]
def f_X5_wrong_42 (p1 : Int32) (p2 : Int32) (x_t_table_places : Int32) (x_t_table_beginnings : Int32) (x_t_table_courtCount : Int32) (x_t_table_text : Nat → Int32)  : Nat → Int32 → Int32 → (Nat → Int32) → Int32 → Int32 → (Nat → Int32) → (Nat → Int32) → (Nat → Int32) → (Nat → Int32) → (Nat → Int32) → Option (Int32 × (Nat → Int32) × Int32 × Int32 × (Nat → Int32) × (Nat → Int32) × (Nat → Int32) × (Nat → Int32) × (Nat → Int32))
  | 0, _, _, _, _, _, _, _, _, _, _ => none
  | n_ + 1, v3, v4, m_t_pack, m_t_row_places, m_t_row_beginnings, m_t_row_counts, m_t_row_ends, m_t_row_comers, m_t_row_leaders, m_t_row_chains =>
    if (100 : Int32) ≤ v4 then
      some (v3, m_t_pack, m_t_row_places, m_t_row_beginnings, m_t_row_counts, m_t_row_ends, m_t_row_comers, m_t_row_leaders, m_t_row_chains)
    else
      ck (fitC x_t_table_text (0 : Int32) (40 : Int32)) (
      Option.bind (f_X5_mix x_t_table_places v4 (va_cpy x_t_table_text m_t_pack (ix (0 : Int32)) (ix (0 : Int32)) (ix (40 : Int32)))) (fun r80 =>
      Option.bind (f_X2_follow x_t_table_courtCount r80 x_t_table_places x_t_table_beginnings m_t_row_counts m_t_row_ends m_t_row_comers m_t_row_leaders m_t_row_chains) (fun r102 =>
      ck (inB p1 40) (
      ck (inB p2 40) (
      if (r102.2.2.2.1 (ix p1)) = (r102.2.2.2.1 (ix p2)) then
        f_X5_wrong_42 p1 p2 x_t_table_places x_t_table_beginnings x_t_table_courtCount x_t_table_text n_ v3 (v4 + (1 : Int32)) r80 r102.1 r102.2.1 r102.2.2.1 r102.2.2.2.1 r102.2.2.2.2.1 r102.2.2.2.2.2.1 r102.2.2.2.2.2.2
      else
        f_X5_wrong_42 p1 p2 x_t_table_places x_t_table_beginnings x_t_table_courtCount x_t_table_text n_ (v3 + (1 : Int32)) (v4 + (1 : Int32)) r80 r102.1 r102.2.1 r102.2.2.1 r102.2.2.2.1 r102.2.2.2.2.1 r102.2.2.2.2.2.1 r102.2.2.2.2.2.2)))))
def f_X5_wrong (p1 : Int32) (p2 : Int32) (x_t_table_places : Int32) (x_t_table_beginnings : Int32) (x_t_table_courtCount : Int32) (x_t_table_text : Nat → Int32) (x_t_pack : Nat → Int32) (x_t_row_places : Int32) (x_t_row_beginnings : Int32) (x_t_row_counts : Nat → Int32) (x_t_row_ends : Nat → Int32) (x_t_row_comers : Nat → Int32) (x_t_row_leaders : Nat → Int32) (x_t_row_chains : Nat → Int32) : Option (Int32 × (Nat → Int32) × Int32 × Int32 × (Nat → Int32) × (Nat → Int32) × (Nat → Int32) × (Nat → Int32) × (Nat → Int32)) :=
  Option.bind (f_X3_has p1 x_t_table_places) (fun r5 =>
  if r5 = 0 then
    some ((-1 : Int32), x_t_pack, x_t_row_places, x_t_row_beginnings, x_t_row_counts, x_t_row_ends, x_t_row_comers, x_t_row_leaders, x_t_row_chains)
  else
    Option.bind (f_X3_has p2 x_t_table_places) (fun r16 =>
    if r16 = 0 then
      some ((-1 : Int32), x_t_pack, x_t_row_places, x_t_row_beginnings, x_t_row_counts, x_t_row_ends, x_t_row_comers, x_t_row_leaders, x_t_row_chains)
    else
      Option.bind (f_X3_isWhole x_t_table_places x_t_table_text) (fun r28 =>
      if r28 = 0 then
        some ((-3 : Int32), x_t_pack, x_t_row_places, x_t_row_beginnings, x_t_row_counts, x_t_row_ends, x_t_row_comers, x_t_row_leaders, x_t_row_chains)
      else
        f_X5_wrong_42 p1 p2 x_t_table_places x_t_table_beginnings x_t_table_courtCount x_t_table_text FU (0 : Int32) (0 : Int32) x_t_pack x_t_row_places x_t_row_beginnings x_t_row_counts x_t_row_ends x_t_row_comers x_t_row_leaders x_t_row_chains)))
set_option maxHeartbeats 4000000 in
set_option maxRecDepth 100000 in
theorem c_X5_wrong (l : Launch) (E : EN) (a_t a_t_table a_t_table_text a_t_pack a_t_row a_t_row_counts a_t_row_ends a_t_row_comers a_t_row_leaders a_t_row_chains : Nat) (w_t_pad : Value) (x_t_signs : Int32) (w_t_images : Value) (w_t_chances : Value) (w_t_writing : Value) (w_t_guess : Value) (w_t_table_weights : Value) (w_t_table_sightFrom : Value) (w_t_table_sightOut : Value) (x_t_table_places : Int32) (x_t_table_beginnings : Int32) (x_t_table_courtCount : Int32) (x_t_table_allowed : Int32) (x_t_table_sights : Int32) (x_t_table_kept : Int32) (x_t_table_text : Nat → Int32) (x_t_pack : Nat → Int32) (x_t_row_places : Int32) (x_t_row_beginnings : Int32) (x_t_row_counts : Nat → Int32) (x_t_row_ends : Nat → Int32) (x_t_row_comers : Nat → Int32) (x_t_row_leaders : Nat → Int32) (x_t_row_chains : Nat → Int32) (p1 : Int32) (p2 : Int32) (res : Int32 × (Nat → Int32) × Int32 × Int32 × (Nat → Int32) × (Nat → Int32) × (Nat → Int32) × (Nat → Int32) × (Nat → Int32)) (hf : f_X5_wrong p1 p2 x_t_table_places x_t_table_beginnings x_t_table_courtCount x_t_table_text x_t_pack x_t_row_places x_t_row_beginnings x_t_row_counts x_t_row_ends x_t_row_comers x_t_row_leaders x_t_row_chains = some res) : CtI l yX5_wrong cX5_wrong 5 .int 3 70 E [.ref a_t, .int p1, .int p2] (wd_X5_wrong E a_t a_t_table a_t_table_text a_t_pack a_t_row a_t_row_counts a_t_row_ends a_t_row_comers a_t_row_leaders a_t_row_chains w_t_pad x_t_signs w_t_images w_t_chances w_t_writing w_t_guess w_t_table_weights w_t_table_sightFrom w_t_table_sightOut x_t_table_places x_t_table_beginnings x_t_table_courtCount x_t_table_allowed x_t_table_sights x_t_table_kept x_t_table_text x_t_pack x_t_row_places x_t_row_beginnings x_t_row_counts x_t_row_ends x_t_row_comers x_t_row_leaders x_t_row_chains) (wd_X5_wrong E a_t a_t_table a_t_table_text a_t_pack a_t_row a_t_row_counts a_t_row_ends a_t_row_comers a_t_row_leaders a_t_row_chains w_t_pad x_t_signs w_t_images w_t_chances w_t_writing w_t_guess w_t_table_weights w_t_table_sightFrom w_t_table_sightOut x_t_table_places x_t_table_beginnings x_t_table_courtCount x_t_table_allowed x_t_table_sights x_t_table_kept x_t_table_text res.2.1 res.2.2.1 res.2.2.2.1 res.2.2.2.2.1 res.2.2.2.2.2.1 res.2.2.2.2.2.2.1 res.2.2.2.2.2.2.2.1 res.2.2.2.2.2.2.2.2) res.1 := by
  refine CtI.of RX5 (by decide) rfl (Nat.le_of_ble_eq_true rfl) ?_
  intro p e s m below meth c A Q ls X hA hP hD hl fin
  have hx := X.1
  have hb := X.2.1
  have hl : lv_has ls 5 [(0, .ref a_t), (1, .int p1), (2, .int p2)] := hl
  have fin' : ∀ (fr0 : Int32) (fr1 : (Nat → Int32)) (fr2 : Int32) (fr3 : Int32) (fr4 : (Nat → Int32)) (fr5 : (Nat → Int32)) (fr6 : (Nat → Int32)) (fr7 : (Nat → Int32)) (fr8 : (Nat → Int32)), some (fr0, fr1, fr2, fr3, fr4, fr5, fr6, fr7, fr8) = some res → ∀ (pc : Nat) (ls : Array Slot) (H : Heap) (locs : List Loc), decode cX5_wrong pc = .ok (.ireturn, 1) → narrow .int (.int fr0) = .int fr0 → va_P E.1 vwCl (wd_X5_wrong E a_t a_t_table a_t_table_text a_t_pack a_t_row a_t_row_counts a_t_row_ends a_t_row_comers a_t_row_leaders a_t_row_chains w_t_pad x_t_signs w_t_images w_t_chances w_t_writing w_t_guess w_t_table_weights w_t_table_sightFrom w_t_table_sightOut x_t_table_places x_t_table_beginnings x_t_table_courtCount x_t_table_allowed x_t_table_sights x_t_table_kept x_t_table_text fr1 fr2 fr3 fr4 fr5 fr6 fr7 fr8) H → va_D A (wd_X5_wrong E a_t a_t_table a_t_table_text a_t_pack a_t_row a_t_row_counts a_t_row_ends a_t_row_comers a_t_row_leaders a_t_row_chains w_t_pad x_t_signs w_t_images w_t_chances w_t_writing w_t_guess w_t_table_weights w_t_table_sightFrom w_t_table_sightOut x_t_table_places x_t_table_beginnings x_t_table_courtCount x_t_table_allowed x_t_table_sights x_t_table_kept x_t_table_text fr1 fr2 fr3 fr4 fr5 fr6 fr7 fr8) → va_S A s.heap H locs → W p l e (rmm 3 70) s m ([.ref a_t, .int p1, .int p2] : List Value).toArray below meth c H locs 0 0 Q (F0 m pc ls [.int fr0]) := by
    intro fr0 fr1 fr2 fr3 fr4 fr5 fr6 fr7 fr8 he
    cases he
    exact fin
  have L42 : ∀ (n42 : Nat) (v3 : Int32) (v4 : Int32) (m_t_pack : Nat → Int32) (m_t_row_places : Int32) (m_t_row_beginnings : Int32) (m_t_row_counts : Nat → Int32) (m_t_row_ends : Nat → Int32) (m_t_row_comers : Nat → Int32) (m_t_row_leaders : Nat → Int32) (m_t_row_chains : Nat → Int32), f_X5_wrong_42 p1 p2 x_t_table_places x_t_table_beginnings x_t_table_courtCount x_t_table_text n42 v3 v4 m_t_pack m_t_row_places m_t_row_beginnings m_t_row_counts m_t_row_ends m_t_row_comers m_t_row_leaders m_t_row_chains = some res → ∀ (H : Heap) (locs : List Loc) (ls : Array Slot), va_P E.1 vwCl (wd_X5_wrong E a_t a_t_table a_t_table_text a_t_pack a_t_row a_t_row_counts a_t_row_ends a_t_row_comers a_t_row_leaders a_t_row_chains w_t_pad x_t_signs w_t_images w_t_chances w_t_writing w_t_guess w_t_table_weights w_t_table_sightFrom w_t_table_sightOut x_t_table_places x_t_table_beginnings x_t_table_courtCount x_t_table_allowed x_t_table_sights x_t_table_kept x_t_table_text m_t_pack m_t_row_places m_t_row_beginnings m_t_row_counts m_t_row_ends m_t_row_comers m_t_row_leaders m_t_row_chains) H → va_D A (wd_X5_wrong E a_t a_t_table a_t_table_text a_t_pack a_t_row a_t_row_counts a_t_row_ends a_t_row_comers a_t_row_leaders a_t_row_chains w_t_pad x_t_signs w_t_images w_t_chances w_t_writing w_t_guess w_t_table_weights w_t_table_sightFrom w_t_table_sightOut x_t_table_places x_t_table_beginnings x_t_table_courtCount x_t_table_allowed x_t_table_sights x_t_table_kept x_t_table_text m_t_pack m_t_row_places m_t_row_beginnings m_t_row_counts m_t_row_ends m_t_row_comers m_t_row_leaders m_t_row_chains) → va_S A s.heap H locs → lv_has ls 5 [(0, .ref a_t), (1, .int p1), (2, .int p2), (3, .int v3), (4, .int v4)] → W p l e (rmm 3 70) s m ([.ref a_t, .int p1, .int p2] : List Value).toArray below meth c H locs 0 0 Q (F0 m 42 ls []) := by
    intro n42
    induction n42 with
    | zero => intro v3 v4 m_t_pack m_t_row_places m_t_row_beginnings m_t_row_counts m_t_row_ends m_t_row_comers m_t_row_leaders m_t_row_chains hf; rw [f_X5_wrong_42] at hf; cases hf
    | succ n42 ih42 =>
      intro v3 v4 m_t_pack m_t_row_places m_t_row_beginnings m_t_row_counts m_t_row_ends m_t_row_comers m_t_row_leaders m_t_row_chains hf H locs ls hP hD hS hl
      rw [f_X5_wrong_42] at hf
      refine lv_iload hx hb dX5_wrong_42 (lv_at hl 4 rfl) ?_
      refine lv_bipush (v := (100 : Int32)) hx hb dX5_wrong_44 (by decide) ?_
      refine lv_icmp_ge (tgt := 135) hx hb dX5_wrong_46 (by decide) (fun c_46 => ?_) (fun c_46 => ?_)
      · have hf := if_t c_46 hf
        refine lv_iload_n hx hb dX5_wrong_135 rfl (lv_at hl 3 rfl) ?_
        exact fin' _ _ _ _ _ _ _ _ _ hf 136 ls H locs dX5_wrong_136 rfl hP hD hS
      · have hf := if_f c_46 hf
        refine lv_aload_n hx hb dX5_wrong_49 rfl (lv_at hl 0 rfl) ?_
        refine gf_X5_20 X hP 0 rfl rfl dX5_wrong_50 ?_
        refine gf_X5_93 X hP 1 rfl rfl dX5_wrong_53 ?_
        refine lv_iconst (v := (0 : Int32)) hx hb dX5_wrong_56 (by decide) ?_
        refine lv_aload_n hx hb dX5_wrong_57 rfl (lv_at hl 0 rfl) ?_
        refine gf_X5_28 X hP 0 rfl rfl dX5_wrong_58 ?_
        refine lv_iconst (v := (0 : Int32)) hx hb dX5_wrong_61 (by decide) ?_
        refine lv_bipush (v := (40 : Int32)) hx hb dX5_wrong_62 (by decide) ?_
        obtain ⟨hg64, hf⟩ := ck_some hf
        refine r_copyC X hl.1 k_609 hP hD hS 2 3 rfl rfl (by decide) hg64 (Nat.le_of_ble_eq_true rfl) (Nat.le_of_ble_eq_true rfl) (ws' := (wd_X5_wrong E a_t a_t_table a_t_table_text a_t_pack a_t_row a_t_row_counts a_t_row_ends a_t_row_comers a_t_row_leaders a_t_row_chains w_t_pad x_t_signs w_t_images w_t_chances w_t_writing w_t_guess w_t_table_weights w_t_table_sightFrom w_t_table_sightOut x_t_table_places x_t_table_beginnings x_t_table_courtCount x_t_table_allowed x_t_table_sights x_t_table_kept x_t_table_text (va_cpy x_t_table_text m_t_pack (ix (0 : Int32)) (ix (0 : Int32)) (ix (40 : Int32))) m_t_row_places m_t_row_beginnings m_t_row_counts m_t_row_ends m_t_row_comers m_t_row_leaders m_t_row_chains)) rfl dX5_wrong_64 (fun H locs hP hD hS => ?_)
        refine lv_aload_n hx hb dX5_wrong_67 rfl (lv_at hl 0 rfl) ?_
        refine gf_X5_28 X hP 0 rfl rfl dX5_wrong_68 ?_
        refine lv_aload_n hx hb dX5_wrong_71 rfl (lv_at hl 0 rfl) ?_
        refine gf_X5_20 X hP 0 rfl rfl dX5_wrong_72 ?_
        refine gf_X5_67 X hP 1 rfl rfl dX5_wrong_75 ?_
        refine lv_iload hx hb dX5_wrong_78 (lv_at hl 4 rfl) ?_
        obtain ⟨r80, hc80, hf⟩ := bd_some hf
        refine cS_V X hA hP hD hS hl.1 (c_X5_mix l E a_t_pack (va_cpy x_t_table_text m_t_pack (ix (0 : Int32)) (ix (0 : Int32)) (ix (40 : Int32))) x_t_table_places v4 r80 hc80) 3 k_601 mw_X5_mix hd_X5_mix ⟨Nat.le_of_ble_eq_true rfl, Nat.le_of_ble_eq_true rfl⟩ [3] [0, 1, 2, 4, 5, 6, 7, 8, 9] [0, 1, 2, 9, 3, 4, 5, 6, 7, 8] rfl rfl (wr := [0, 1, 2, 4, 5, 6, 7, 8, 9].filterMap (fun i => (wd_X5_wrong E a_t a_t_table a_t_table_text a_t_pack a_t_row a_t_row_counts a_t_row_ends a_t_row_comers a_t_row_leaders a_t_row_chains w_t_pad x_t_signs w_t_images w_t_chances w_t_writing w_t_guess w_t_table_weights w_t_table_sightFrom w_t_table_sightOut x_t_table_places x_t_table_beginnings x_t_table_courtCount x_t_table_allowed x_t_table_sights x_t_table_kept x_t_table_text (va_cpy x_t_table_text m_t_pack (ix (0 : Int32)) (ix (0 : Int32)) (ix (40 : Int32))) m_t_row_places m_t_row_beginnings m_t_row_counts m_t_row_ends m_t_row_comers m_t_row_leaders m_t_row_chains)[i]?)) rfl rfl rfl rfl rfl (Nat.le_of_ble_eq_true rfl) rfl (ws' := (wd_X5_wrong E a_t a_t_table a_t_table_text a_t_pack a_t_row a_t_row_counts a_t_row_ends a_t_row_comers a_t_row_leaders a_t_row_chains w_t_pad x_t_signs w_t_images w_t_chances w_t_writing w_t_guess w_t_table_weights w_t_table_sightFrom w_t_table_sightOut x_t_table_places x_t_table_beginnings x_t_table_courtCount x_t_table_allowed x_t_table_sights x_t_table_kept x_t_table_text r80 m_t_row_places m_t_row_beginnings m_t_row_counts m_t_row_ends m_t_row_comers m_t_row_leaders m_t_row_chains)) rfl ⟨Nat.le_of_ble_eq_true rfl, Nat.le_of_ble_eq_true rfl⟩ dX5_wrong_80 (fun H locs hP hD hS => ?_)
        refine lv_aload_n hx hb dX5_wrong_83 rfl (lv_at hl 0 rfl) ?_
        refine gf_X5_34 X hP 0 rfl rfl dX5_wrong_84 ?_
        refine lv_aload_n hx hb dX5_wrong_87 rfl (lv_at hl 0 rfl) ?_
        refine gf_X5_28 X hP 0 rfl rfl dX5_wrong_88 ?_
        refine lv_aload_n hx hb dX5_wrong_91 rfl (lv_at hl 0 rfl) ?_
        refine gf_X5_20 X hP 0 rfl rfl dX5_wrong_92 ?_
        refine lv_aload_n hx hb dX5_wrong_95 rfl (lv_at hl 0 rfl) ?_
        refine gf_X5_20 X hP 0 rfl rfl dX5_wrong_96 ?_
        refine gf_X5_77 X hP 1 rfl rfl dX5_wrong_99 ?_
        obtain ⟨r102, hc102, hf⟩ := bd_some hf
        refine cV_V X hA hP hD hS hl.1 (c_X2_follow l E a_t_row a_t_pack a_t_table a_t_row_counts a_t_row_ends a_t_row_comers a_t_row_leaders a_t_row_chains m_t_row_places m_t_row_beginnings r80 (.ref a_t_table_text) w_t_table_weights w_t_table_sightFrom w_t_table_sightOut x_t_table_places x_t_table_beginnings x_t_table_courtCount x_t_table_allowed x_t_table_sights x_t_table_kept m_t_row_counts m_t_row_ends m_t_row_comers m_t_row_leaders m_t_row_chains x_t_table_courtCount r102 hc102) 3 k_384 mw_X2_follow hd_X2_follow ⟨Nat.le_of_ble_eq_true rfl, Nat.le_of_ble_eq_true rfl⟩ [4, 3, 1, 5, 6, 7, 8, 9] [0, 2] [0, 4, 1, 3, 2, 5, 6, 7, 8, 9] rfl rfl (wr := [0, 2].filterMap (fun i => (wd_X5_wrong E a_t a_t_table a_t_table_text a_t_pack a_t_row a_t_row_counts a_t_row_ends a_t_row_comers a_t_row_leaders a_t_row_chains w_t_pad x_t_signs w_t_images w_t_chances w_t_writing w_t_guess w_t_table_weights w_t_table_sightFrom w_t_table_sightOut x_t_table_places x_t_table_beginnings x_t_table_courtCount x_t_table_allowed x_t_table_sights x_t_table_kept x_t_table_text r80 m_t_row_places m_t_row_beginnings m_t_row_counts m_t_row_ends m_t_row_comers m_t_row_leaders m_t_row_chains)[i]?)) rfl rfl rfl 2 0 rfl rfl rfl rfl rfl (Nat.le_of_ble_eq_true rfl) rfl (ws' := (wd_X5_wrong E a_t a_t_table a_t_table_text a_t_pack a_t_row a_t_row_counts a_t_row_ends a_t_row_comers a_t_row_leaders a_t_row_chains w_t_pad x_t_signs w_t_images w_t_chances w_t_writing w_t_guess w_t_table_weights w_t_table_sightFrom w_t_table_sightOut x_t_table_places x_t_table_beginnings x_t_table_courtCount x_t_table_allowed x_t_table_sights x_t_table_kept x_t_table_text r80 r102.1 r102.2.1 r102.2.2.1 r102.2.2.2.1 r102.2.2.2.2.1 r102.2.2.2.2.2.1 r102.2.2.2.2.2.2)) rfl ⟨Nat.le_of_ble_eq_true rfl, Nat.le_of_ble_eq_true rfl⟩ dX5_wrong_102 (fun H locs hP hD hS => ?_)
        refine lv_aload_n hx hb dX5_wrong_105 rfl (lv_at hl 0 rfl) ?_
        refine gf_X5_34 X hP 0 rfl rfl dX5_wrong_106 ?_
        refine gf_X5_108 X hP 4 rfl rfl dX5_wrong_109 ?_
        refine lv_iload_n hx hb dX5_wrong_112 rfl (lv_at hl 1 rfl) ?_
        obtain ⟨hi113, hf⟩ := ck_some hf
        refine r_iald X hP 6 rfl hi113 dX5_wrong_113 ?_
        refine lv_aload_n hx hb dX5_wrong_114 rfl (lv_at hl 0 rfl) ?_
        refine gf_X5_34 X hP 0 rfl rfl dX5_wrong_115 ?_
        refine gf_X5_108 X hP 4 rfl rfl dX5_wrong_118 ?_
        refine lv_iload_n hx hb dX5_wrong_121 rfl (lv_at hl 2 rfl) ?_
        obtain ⟨hi122, hf⟩ := ck_some hf
        refine r_iald X hP 6 rfl hi122 dX5_wrong_122 ?_
        refine lv_icmp_eq (tgt := 129) hx hb dX5_wrong_123 (by decide) (fun c_123 => ?_) (fun c_123 => ?_)
        · have hf := if_t c_123 hf
          refine lv_iinc (v := (v4 + (1 : Int32))) (lv' := [(4, .int (v4 + (1 : Int32))), (0, .ref a_t), (1, .int p1), (2, .int p2), (3, .int v3)]) hx hb dX5_wrong_129 hl (k := 4) rfl rfl (by decide) rfl (fun ls hl => ?_)
          refine lv_goto (tgt := 42) hx hb dX5_wrong_132 (by decide) ?_
          exact ih42 v3 (v4 + (1 : Int32)) r80 r102.1 r102.2.1 r102.2.2.1 r102.2.2.2.1 r102.2.2.2.2.1 r102.2.2.2.2.2.1 r102.2.2.2.2.2.2 hf H locs ls hP hD hS (lv_sub hl [1, 2, 3, 4, 0] rfl)
        · have hf := if_f c_123 hf
          refine lv_iinc (v := (v3 + (1 : Int32))) (lv' := [(3, .int (v3 + (1 : Int32))), (0, .ref a_t), (1, .int p1), (2, .int p2), (4, .int v4)]) hx hb dX5_wrong_126 hl (k := 3) rfl rfl (by decide) rfl (fun ls hl => ?_)
          refine lv_iinc (v := (v4 + (1 : Int32))) (lv' := [(4, .int (v4 + (1 : Int32))), (3, .int (v3 + (1 : Int32))), (0, .ref a_t), (1, .int p1), (2, .int p2)]) hx hb dX5_wrong_129 hl (k := 4) rfl rfl (by decide) rfl (fun ls hl => ?_)
          refine lv_goto (tgt := 42) hx hb dX5_wrong_132 (by decide) ?_
          exact ih42 (v3 + (1 : Int32)) (v4 + (1 : Int32)) r80 r102.1 r102.2.1 r102.2.2.1 r102.2.2.2.1 r102.2.2.2.2.1 r102.2.2.2.2.2.1 r102.2.2.2.2.2.2 hf H locs ls hP hD hS (lv_sub hl [2, 3, 4, 1, 0] rfl)
  have hS : va_S A s.heap s.heap [] := va_S.rf
  obtain ⟨H, hH9⟩ : ∃ z, z = s.heap := ⟨_, rfl⟩
  obtain ⟨locs, hL9⟩ : ∃ z : List Loc, z = [] := ⟨_, rfl⟩
  rw [← hL9]
  rw [← hL9] at hS
  have hP : va_P E.1 vwCl (wd_X5_wrong E a_t a_t_table a_t_table_text a_t_pack a_t_row a_t_row_counts a_t_row_ends a_t_row_comers a_t_row_leaders a_t_row_chains w_t_pad x_t_signs w_t_images w_t_chances w_t_writing w_t_guess w_t_table_weights w_t_table_sightFrom w_t_table_sightOut x_t_table_places x_t_table_beginnings x_t_table_courtCount x_t_table_allowed x_t_table_sights x_t_table_kept x_t_table_text x_t_pack x_t_row_places x_t_row_beginnings x_t_row_counts x_t_row_ends x_t_row_comers x_t_row_leaders x_t_row_chains) H := by rw [hH9]; exact hP
  have hS : va_S A s.heap H locs := by rw [hH9]; exact hS
  suffices hgoal : W p l e (rmm 3 70) s m ([.ref a_t, .int p1, .int p2] : List Value).toArray below meth c H locs 0 0 Q (F0 m 0 ls []) by rw [hH9] at hgoal; exact hgoal
  rw [f_X5_wrong] at hf
  refine lv_aload_n hx hb dX5_wrong_0 rfl (lv_at hl 0 rfl) ?_
  refine gf_X5_20 X hP 0 rfl rfl dX5_wrong_1 ?_
  refine lv_iload_n hx hb dX5_wrong_4 rfl (lv_at hl 1 rfl) ?_
  obtain ⟨r5, hc5, hf⟩ := bd_some hf
  refine cV_I X hA hP hD hS hl.1 (c_X3_has l E a_t_table (.ref a_t_table_text) w_t_table_weights w_t_table_sightFrom w_t_table_sightOut x_t_table_places x_t_table_beginnings x_t_table_courtCount x_t_table_allowed x_t_table_sights x_t_table_kept p1 r5 hc5) 1 k_368 mw_X3_has hd_X3_has ⟨Nat.le_of_ble_eq_true rfl, Nat.le_of_ble_eq_true rfl⟩ [1] [0, 2, 3, 4, 5, 6, 7, 8, 9] [0, 9, 1, 2, 3, 4, 5, 6, 7, 8] rfl rfl (wr := [0, 2, 3, 4, 5, 6, 7, 8, 9].filterMap (fun i => (wd_X5_wrong E a_t a_t_table a_t_table_text a_t_pack a_t_row a_t_row_counts a_t_row_ends a_t_row_comers a_t_row_leaders a_t_row_chains w_t_pad x_t_signs w_t_images w_t_chances w_t_writing w_t_guess w_t_table_weights w_t_table_sightFrom w_t_table_sightOut x_t_table_places x_t_table_beginnings x_t_table_courtCount x_t_table_allowed x_t_table_sights x_t_table_kept x_t_table_text x_t_pack x_t_row_places x_t_row_beginnings x_t_row_counts x_t_row_ends x_t_row_comers x_t_row_leaders x_t_row_chains)[i]?)) rfl rfl rfl 3 0 rfl rfl rfl rfl rfl (Nat.le_of_ble_eq_true rfl) rfl (ws' := (wd_X5_wrong E a_t a_t_table a_t_table_text a_t_pack a_t_row a_t_row_counts a_t_row_ends a_t_row_comers a_t_row_leaders a_t_row_chains w_t_pad x_t_signs w_t_images w_t_chances w_t_writing w_t_guess w_t_table_weights w_t_table_sightFrom w_t_table_sightOut x_t_table_places x_t_table_beginnings x_t_table_courtCount x_t_table_allowed x_t_table_sights x_t_table_kept x_t_table_text x_t_pack x_t_row_places x_t_row_beginnings x_t_row_counts x_t_row_ends x_t_row_comers x_t_row_leaders x_t_row_chains)) rfl ⟨Nat.le_of_ble_eq_true rfl, Nat.le_of_ble_eq_true rfl⟩ dX5_wrong_5 (fun H locs hP hD hS => ?_)
  refine lv_if_eq (tgt := 22) hx hb dX5_wrong_8 (by decide) (fun c_8 => ?_) (fun c_8 => ?_)
  · have hf := if_t c_8 hf
    refine lv_iconst (v := (-1 : Int32)) hx hb dX5_wrong_22 (by decide) ?_
    exact fin' _ _ _ _ _ _ _ _ _ hf 23 ls H locs dX5_wrong_23 rfl hP hD hS
  · have hf := if_f c_8 hf
    refine lv_aload_n hx hb dX5_wrong_11 rfl (lv_at hl 0 rfl) ?_
    refine gf_X5_20 X hP 0 rfl rfl dX5_wrong_12 ?_
    refine lv_iload_n hx hb dX5_wrong_15 rfl (lv_at hl 2 rfl) ?_
    obtain ⟨r16, hc16, hf⟩ := bd_some hf
    refine cV_I X hA hP hD hS hl.1 (c_X3_has l E a_t_table (.ref a_t_table_text) w_t_table_weights w_t_table_sightFrom w_t_table_sightOut x_t_table_places x_t_table_beginnings x_t_table_courtCount x_t_table_allowed x_t_table_sights x_t_table_kept p2 r16 hc16) 1 k_368 mw_X3_has hd_X3_has ⟨Nat.le_of_ble_eq_true rfl, Nat.le_of_ble_eq_true rfl⟩ [1] [0, 2, 3, 4, 5, 6, 7, 8, 9] [0, 9, 1, 2, 3, 4, 5, 6, 7, 8] rfl rfl (wr := [0, 2, 3, 4, 5, 6, 7, 8, 9].filterMap (fun i => (wd_X5_wrong E a_t a_t_table a_t_table_text a_t_pack a_t_row a_t_row_counts a_t_row_ends a_t_row_comers a_t_row_leaders a_t_row_chains w_t_pad x_t_signs w_t_images w_t_chances w_t_writing w_t_guess w_t_table_weights w_t_table_sightFrom w_t_table_sightOut x_t_table_places x_t_table_beginnings x_t_table_courtCount x_t_table_allowed x_t_table_sights x_t_table_kept x_t_table_text x_t_pack x_t_row_places x_t_row_beginnings x_t_row_counts x_t_row_ends x_t_row_comers x_t_row_leaders x_t_row_chains)[i]?)) rfl rfl rfl 3 0 rfl rfl rfl rfl rfl (Nat.le_of_ble_eq_true rfl) rfl (ws' := (wd_X5_wrong E a_t a_t_table a_t_table_text a_t_pack a_t_row a_t_row_counts a_t_row_ends a_t_row_comers a_t_row_leaders a_t_row_chains w_t_pad x_t_signs w_t_images w_t_chances w_t_writing w_t_guess w_t_table_weights w_t_table_sightFrom w_t_table_sightOut x_t_table_places x_t_table_beginnings x_t_table_courtCount x_t_table_allowed x_t_table_sights x_t_table_kept x_t_table_text x_t_pack x_t_row_places x_t_row_beginnings x_t_row_counts x_t_row_ends x_t_row_comers x_t_row_leaders x_t_row_chains)) rfl ⟨Nat.le_of_ble_eq_true rfl, Nat.le_of_ble_eq_true rfl⟩ dX5_wrong_16 (fun H locs hP hD hS => ?_)
    refine lv_if_ne (tgt := 24) hx hb dX5_wrong_19 (by decide) (fun c_19 => ?_) (fun c_19 => ?_)
    · have hf := if_f c_19 hf
      refine lv_aload_n hx hb dX5_wrong_24 rfl (lv_at hl 0 rfl) ?_
      refine gf_X5_20 X hP 0 rfl rfl dX5_wrong_25 ?_
      obtain ⟨r28, hc28, hf⟩ := bd_some hf
      refine cV_I X hA hP hD hS hl.1 (c_X3_isWhole l E a_t_table a_t_table_text w_t_table_weights w_t_table_sightFrom w_t_table_sightOut x_t_table_places x_t_table_beginnings x_t_table_courtCount x_t_table_allowed x_t_table_sights x_t_table_kept x_t_table_text r28 hc28) 0 k_376 mw_X3_isWhole hd_X3_isWhole ⟨Nat.le_of_ble_eq_true rfl, Nat.le_of_ble_eq_true rfl⟩ [1, 2] [0, 3, 4, 5, 6, 7, 8, 9] [0, 8, 9, 1, 2, 3, 4, 5, 6, 7] rfl rfl (wr := [0, 3, 4, 5, 6, 7, 8, 9].filterMap (fun i => (wd_X5_wrong E a_t a_t_table a_t_table_text a_t_pack a_t_row a_t_row_counts a_t_row_ends a_t_row_comers a_t_row_leaders a_t_row_chains w_t_pad x_t_signs w_t_images w_t_chances w_t_writing w_t_guess w_t_table_weights w_t_table_sightFrom w_t_table_sightOut x_t_table_places x_t_table_beginnings x_t_table_courtCount x_t_table_allowed x_t_table_sights x_t_table_kept x_t_table_text x_t_pack x_t_row_places x_t_row_beginnings x_t_row_counts x_t_row_ends x_t_row_comers x_t_row_leaders x_t_row_chains)[i]?)) rfl rfl rfl 3 0 rfl rfl rfl rfl rfl (Nat.le_of_ble_eq_true rfl) rfl (ws' := (wd_X5_wrong E a_t a_t_table a_t_table_text a_t_pack a_t_row a_t_row_counts a_t_row_ends a_t_row_comers a_t_row_leaders a_t_row_chains w_t_pad x_t_signs w_t_images w_t_chances w_t_writing w_t_guess w_t_table_weights w_t_table_sightFrom w_t_table_sightOut x_t_table_places x_t_table_beginnings x_t_table_courtCount x_t_table_allowed x_t_table_sights x_t_table_kept x_t_table_text x_t_pack x_t_row_places x_t_row_beginnings x_t_row_counts x_t_row_ends x_t_row_comers x_t_row_leaders x_t_row_chains)) rfl ⟨Nat.le_of_ble_eq_true rfl, Nat.le_of_ble_eq_true rfl⟩ dX5_wrong_28 (fun H locs hP hD hS => ?_)
      refine lv_if_ne (tgt := 37) hx hb dX5_wrong_31 (by decide) (fun c_31 => ?_) (fun c_31 => ?_)
      · have hf := if_f c_31 hf
        refine lv_iconst (v := (0 : Int32)) hx hb dX5_wrong_37 (by decide) ?_
        refine lv_istore_n (lv' := [(3, .int (0 : Int32)), (0, .ref a_t), (1, .int p1), (2, .int p2)]) hx hb dX5_wrong_38 rfl hl (by decide) rfl (fun ls hl => ?_)
        refine lv_iconst (v := (0 : Int32)) hx hb dX5_wrong_39 (by decide) ?_
        refine lv_istore (lv' := [(4, .int (0 : Int32)), (3, .int (0 : Int32)), (0, .ref a_t), (1, .int p1), (2, .int p2)]) hx hb dX5_wrong_40 hl (by decide) rfl (fun ls hl => ?_)
        exact L42 FU (0 : Int32) (0 : Int32) x_t_pack x_t_row_places x_t_row_beginnings x_t_row_counts x_t_row_ends x_t_row_comers x_t_row_leaders x_t_row_chains hf H locs ls hP hD hS (lv_sub hl [2, 3, 4, 1, 0] rfl)
      · have hf := if_t c_31 hf
        refine lv_bipush (v := (-3 : Int32)) hx hb dX5_wrong_34 (by decide) ?_
        exact fin' _ _ _ _ _ _ _ _ _ hf 36 ls H locs dX5_wrong_36 rfl hP hD hS
    · have hf := if_t c_19 hf
      refine lv_iconst (v := (-1 : Int32)) hx hb dX5_wrong_22 (by decide) ?_
      exact fin' _ _ _ _ _ _ _ _ _ hf 23 ls H locs dX5_wrong_23 rfl hP hD hS
abbrev wd_X5_image (E : EN) (a_t : Nat) (a_t_images : Nat) (a_t_images_0 : Nat) (a_t_images_1 : Nat) (a_t_table : Nat) (a_t_table_text : Nat) (a_t_images_0_text : Nat) (a_t_table_weights : Nat) (a_t_images_0_weights : Nat) (a_t_table_sightFrom : Nat) (a_t_images_0_sightFrom : Nat) (a_t_table_sightOut : Nat) (a_t_images_0_sightOut : Nat) (a_t_images_1_text : Nat) (a_t_images_1_weights : Nat) (a_t_images_1_sightFrom : Nat) (a_t_images_1_sightOut : Nat) (w_t_pad : Value) (x_t_signs : Int32) (w_t_pack : Value) (w_t_row : Value) (w_t_chances : Value) (w_t_writing : Value) (w_t_guess : Value) (x_t_images_0_places : Int32) (x_t_images_0_beginnings : Int32) (x_t_images_0_courtCount : Int32) (x_t_images_0_allowed : Int32) (x_t_images_0_sights : Int32) (x_t_images_0_kept : Int32) (x_t_images_1_places : Int32) (x_t_images_1_beginnings : Int32) (x_t_images_1_courtCount : Int32) (x_t_images_1_allowed : Int32) (x_t_images_1_sights : Int32) (x_t_images_1_kept : Int32) (x_t_table_places : Int32) (x_t_table_beginnings : Int32) (x_t_table_courtCount : Int32) (x_t_table_allowed : Int32) (x_t_table_sights : Int32) (x_t_table_kept : Int32) (x_t_table_text : Nat → Int32) (x_t_images_0_text : Nat → Int32) (x_t_table_weights : Nat → Int32) (x_t_images_0_weights : Nat → Int32) (x_t_table_sightFrom : Nat → Int32) (x_t_images_0_sightFrom : Nat → Int32) (x_t_table_sightOut : Nat → Int32) (x_t_images_0_sightOut : Nat → Int32) (x_t_images_1_text : Nat → Int32) (x_t_images_1_weights : Nat → Int32) (x_t_images_1_sightFrom : Nat → Int32) (x_t_images_1_sightOut : Nat → Int32) : va_W := [(a_t, e_O 5 [w_t_pad, .int x_t_signs, .ref a_t_table, .ref a_t_images, w_t_pack, w_t_row, w_t_chances, w_t_writing, w_t_guess]), (a_t_images, e_T E 2 (va_up (va_up (fun _ => none) (ix (0 : Int32)) (some a_t_images_0)) (ix (1 : Int32)) (some a_t_images_1))), (a_t_images_0, e_O 3 [.ref a_t_images_0_text, .ref a_t_images_0_weights, .ref a_t_images_0_sightFrom, .ref a_t_images_0_sightOut, .int x_t_images_0_places, .int x_t_images_0_beginnings, .int x_t_images_0_courtCount, .int x_t_images_0_allowed, .int x_t_images_0_sights, .int x_t_images_0_kept]), (a_t_images_1, e_O 3 [.ref a_t_images_1_text, .ref a_t_images_1_weights, .ref a_t_images_1_sightFrom, .ref a_t_images_1_sightOut, .int x_t_images_1_places, .int x_t_images_1_beginnings, .int x_t_images_1_courtCount, .int x_t_images_1_allowed, .int x_t_images_1_sights, .int x_t_images_1_kept]), (a_t_table, e_O 3 [.ref a_t_table_text, .ref a_t_table_weights, .ref a_t_table_sightFrom, .ref a_t_table_sightOut, .int x_t_table_places, .int x_t_table_beginnings, .int x_t_table_courtCount, .int x_t_table_allowed, .int x_t_table_sights, .int x_t_table_kept]), (a_t_table_text, e_C E 40 x_t_table_text), (a_t_images_0_text, e_C E 40 x_t_images_0_text), (a_t_table_weights, e_I E 11 x_t_table_weights), (a_t_images_0_weights, e_I E 11 x_t_images_0_weights), (a_t_table_sightFrom, e_I E 6 x_t_table_sightFrom), (a_t_images_0_sightFrom, e_I E 6 x_t_images_0_sightFrom), (a_t_table_sightOut, e_I E 6 x_t_table_sightOut), (a_t_images_0_sightOut, e_I E 6 x_t_images_0_sightOut), (a_t_images_1_text, e_C E 40 x_t_images_1_text), (a_t_images_1_weights, e_I E 11 x_t_images_1_weights), (a_t_images_1_sightFrom, e_I E 6 x_t_images_1_sightFrom), (a_t_images_1_sightOut, e_I E 6 x_t_images_1_sightOut)]
def f_X5_image (p1 : Int32) (x_t_images_0_places : Int32) (x_t_images_0_beginnings : Int32) (x_t_images_0_courtCount : Int32) (x_t_images_0_allowed : Int32) (x_t_images_0_sights : Int32) (x_t_images_0_kept : Int32) (x_t_images_1_places : Int32) (x_t_images_1_beginnings : Int32) (x_t_images_1_courtCount : Int32) (x_t_images_1_allowed : Int32) (x_t_images_1_sights : Int32) (x_t_images_1_kept : Int32) (x_t_table_places : Int32) (x_t_table_beginnings : Int32) (x_t_table_courtCount : Int32) (x_t_table_allowed : Int32) (x_t_table_sights : Int32) (x_t_table_text : Nat → Int32) (x_t_images_0_text : Nat → Int32) (x_t_table_weights : Nat → Int32) (x_t_images_0_weights : Nat → Int32) (x_t_table_sightFrom : Nat → Int32) (x_t_images_0_sightFrom : Nat → Int32) (x_t_table_sightOut : Nat → Int32) (x_t_images_0_sightOut : Nat → Int32) (x_t_images_1_text : Nat → Int32) (x_t_images_1_weights : Nat → Int32) (x_t_images_1_sightFrom : Nat → Int32) (x_t_images_1_sightOut : Nat → Int32) : Option (Int32 × Int32 × Int32 × Int32 × Int32 × Int32 × Int32 × Int32 × Int32 × Int32 × Int32 × Int32 × Int32 × (Nat → Int32) × (Nat → Int32) × (Nat → Int32) × (Nat → Int32) × (Nat → Int32) × (Nat → Int32) × (Nat → Int32) × (Nat → Int32)) :=
  if p1 < 0 then
    some ((-2 : Int32), x_t_images_0_places, x_t_images_0_beginnings, x_t_images_0_courtCount, x_t_images_0_allowed, x_t_images_0_sights, x_t_images_0_kept, x_t_images_1_places, x_t_images_1_beginnings, x_t_images_1_courtCount, x_t_images_1_allowed, x_t_images_1_sights, x_t_images_1_kept, x_t_images_0_text, x_t_images_0_weights, x_t_images_0_sightFrom, x_t_images_0_sightOut, x_t_images_1_text, x_t_images_1_weights, x_t_images_1_sightFrom, x_t_images_1_sightOut)
  else
    if p1 < (2 : Int32) then
      if p1 = 0 then
        Option.bind (f_X3_copy x_t_table_places x_t_table_beginnings x_t_table_courtCount x_t_table_allowed x_t_table_sights x_t_table_text x_t_images_0_text x_t_table_weights x_t_images_0_weights x_t_table_sightFrom x_t_images_0_sightFrom x_t_table_sightOut x_t_images_0_sightOut) (fun r22 =>
        if p1 = 0 then
          some ((1 : Int32), r22.1, r22.2.1, r22.2.2.1, r22.2.2.2.1, r22.2.2.2.2.1, (1 : Int32), x_t_images_1_places, x_t_images_1_beginnings, x_t_images_1_courtCount, x_t_images_1_allowed, x_t_images_1_sights, x_t_images_1_kept, r22.2.2.2.2.2.1, r22.2.2.2.2.2.2.1, r22.2.2.2.2.2.2.2.1, r22.2.2.2.2.2.2.2.2, x_t_images_1_text, x_t_images_1_weights, x_t_images_1_sightFrom, x_t_images_1_sightOut)
        else
        if p1 = 1 then
          some ((1 : Int32), r22.1, r22.2.1, r22.2.2.1, r22.2.2.2.1, r22.2.2.2.2.1, x_t_images_0_kept, x_t_images_1_places, x_t_images_1_beginnings, x_t_images_1_courtCount, x_t_images_1_allowed, x_t_images_1_sights, (1 : Int32), r22.2.2.2.2.2.1, r22.2.2.2.2.2.2.1, r22.2.2.2.2.2.2.2.1, r22.2.2.2.2.2.2.2.2, x_t_images_1_text, x_t_images_1_weights, x_t_images_1_sightFrom, x_t_images_1_sightOut)
        else none)
      else
      if p1 = 1 then
        Option.bind (f_X3_copy x_t_table_places x_t_table_beginnings x_t_table_courtCount x_t_table_allowed x_t_table_sights x_t_table_text x_t_images_1_text x_t_table_weights x_t_images_1_weights x_t_table_sightFrom x_t_images_1_sightFrom x_t_table_sightOut x_t_images_1_sightOut) (fun r22 =>
        if p1 = 0 then
          some ((1 : Int32), x_t_images_0_places, x_t_images_0_beginnings, x_t_images_0_courtCount, x_t_images_0_allowed, x_t_images_0_sights, (1 : Int32), r22.1, r22.2.1, r22.2.2.1, r22.2.2.2.1, r22.2.2.2.2.1, x_t_images_1_kept, x_t_images_0_text, x_t_images_0_weights, x_t_images_0_sightFrom, x_t_images_0_sightOut, r22.2.2.2.2.2.1, r22.2.2.2.2.2.2.1, r22.2.2.2.2.2.2.2.1, r22.2.2.2.2.2.2.2.2)
        else
        if p1 = 1 then
          some ((1 : Int32), x_t_images_0_places, x_t_images_0_beginnings, x_t_images_0_courtCount, x_t_images_0_allowed, x_t_images_0_sights, x_t_images_0_kept, r22.1, r22.2.1, r22.2.2.1, r22.2.2.2.1, r22.2.2.2.2.1, (1 : Int32), x_t_images_0_text, x_t_images_0_weights, x_t_images_0_sightFrom, x_t_images_0_sightOut, r22.2.2.2.2.2.1, r22.2.2.2.2.2.2.1, r22.2.2.2.2.2.2.2.1, r22.2.2.2.2.2.2.2.2)
        else none)
      else none
    else
      some ((-2 : Int32), x_t_images_0_places, x_t_images_0_beginnings, x_t_images_0_courtCount, x_t_images_0_allowed, x_t_images_0_sights, x_t_images_0_kept, x_t_images_1_places, x_t_images_1_beginnings, x_t_images_1_courtCount, x_t_images_1_allowed, x_t_images_1_sights, x_t_images_1_kept, x_t_images_0_text, x_t_images_0_weights, x_t_images_0_sightFrom, x_t_images_0_sightOut, x_t_images_1_text, x_t_images_1_weights, x_t_images_1_sightFrom, x_t_images_1_sightOut)
set_option maxHeartbeats 4000000 in
set_option maxRecDepth 100000 in
theorem c_X5_image (l : Launch) (E : EN) (a_t a_t_images a_t_images_0 a_t_images_1 a_t_table a_t_table_text a_t_images_0_text a_t_table_weights a_t_images_0_weights a_t_table_sightFrom a_t_images_0_sightFrom a_t_table_sightOut a_t_images_0_sightOut a_t_images_1_text a_t_images_1_weights a_t_images_1_sightFrom a_t_images_1_sightOut : Nat) (w_t_pad : Value) (x_t_signs : Int32) (w_t_pack : Value) (w_t_row : Value) (w_t_chances : Value) (w_t_writing : Value) (w_t_guess : Value) (x_t_images_0_places : Int32) (x_t_images_0_beginnings : Int32) (x_t_images_0_courtCount : Int32) (x_t_images_0_allowed : Int32) (x_t_images_0_sights : Int32) (x_t_images_0_kept : Int32) (x_t_images_1_places : Int32) (x_t_images_1_beginnings : Int32) (x_t_images_1_courtCount : Int32) (x_t_images_1_allowed : Int32) (x_t_images_1_sights : Int32) (x_t_images_1_kept : Int32) (x_t_table_places : Int32) (x_t_table_beginnings : Int32) (x_t_table_courtCount : Int32) (x_t_table_allowed : Int32) (x_t_table_sights : Int32) (x_t_table_kept : Int32) (x_t_table_text : Nat → Int32) (x_t_images_0_text : Nat → Int32) (x_t_table_weights : Nat → Int32) (x_t_images_0_weights : Nat → Int32) (x_t_table_sightFrom : Nat → Int32) (x_t_images_0_sightFrom : Nat → Int32) (x_t_table_sightOut : Nat → Int32) (x_t_images_0_sightOut : Nat → Int32) (x_t_images_1_text : Nat → Int32) (x_t_images_1_weights : Nat → Int32) (x_t_images_1_sightFrom : Nat → Int32) (x_t_images_1_sightOut : Nat → Int32) (p1 : Int32) (res : Int32 × Int32 × Int32 × Int32 × Int32 × Int32 × Int32 × Int32 × Int32 × Int32 × Int32 × Int32 × Int32 × (Nat → Int32) × (Nat → Int32) × (Nat → Int32) × (Nat → Int32) × (Nat → Int32) × (Nat → Int32) × (Nat → Int32) × (Nat → Int32)) (hf : f_X5_image p1 x_t_images_0_places x_t_images_0_beginnings x_t_images_0_courtCount x_t_images_0_allowed x_t_images_0_sights x_t_images_0_kept x_t_images_1_places x_t_images_1_beginnings x_t_images_1_courtCount x_t_images_1_allowed x_t_images_1_sights x_t_images_1_kept x_t_table_places x_t_table_beginnings x_t_table_courtCount x_t_table_allowed x_t_table_sights x_t_table_text x_t_images_0_text x_t_table_weights x_t_images_0_weights x_t_table_sightFrom x_t_images_0_sightFrom x_t_table_sightOut x_t_images_0_sightOut x_t_images_1_text x_t_images_1_weights x_t_images_1_sightFrom x_t_images_1_sightOut = some res) : CtI l yX5_image cX5_image 2 .int 2 81 E [.ref a_t, .int p1] (wd_X5_image E a_t a_t_images a_t_images_0 a_t_images_1 a_t_table a_t_table_text a_t_images_0_text a_t_table_weights a_t_images_0_weights a_t_table_sightFrom a_t_images_0_sightFrom a_t_table_sightOut a_t_images_0_sightOut a_t_images_1_text a_t_images_1_weights a_t_images_1_sightFrom a_t_images_1_sightOut w_t_pad x_t_signs w_t_pack w_t_row w_t_chances w_t_writing w_t_guess x_t_images_0_places x_t_images_0_beginnings x_t_images_0_courtCount x_t_images_0_allowed x_t_images_0_sights x_t_images_0_kept x_t_images_1_places x_t_images_1_beginnings x_t_images_1_courtCount x_t_images_1_allowed x_t_images_1_sights x_t_images_1_kept x_t_table_places x_t_table_beginnings x_t_table_courtCount x_t_table_allowed x_t_table_sights x_t_table_kept x_t_table_text x_t_images_0_text x_t_table_weights x_t_images_0_weights x_t_table_sightFrom x_t_images_0_sightFrom x_t_table_sightOut x_t_images_0_sightOut x_t_images_1_text x_t_images_1_weights x_t_images_1_sightFrom x_t_images_1_sightOut) (wd_X5_image E a_t a_t_images a_t_images_0 a_t_images_1 a_t_table a_t_table_text a_t_images_0_text a_t_table_weights a_t_images_0_weights a_t_table_sightFrom a_t_images_0_sightFrom a_t_table_sightOut a_t_images_0_sightOut a_t_images_1_text a_t_images_1_weights a_t_images_1_sightFrom a_t_images_1_sightOut w_t_pad x_t_signs w_t_pack w_t_row w_t_chances w_t_writing w_t_guess res.2.1 res.2.2.1 res.2.2.2.1 res.2.2.2.2.1 res.2.2.2.2.2.1 res.2.2.2.2.2.2.1 res.2.2.2.2.2.2.2.1 res.2.2.2.2.2.2.2.2.1 res.2.2.2.2.2.2.2.2.2.1 res.2.2.2.2.2.2.2.2.2.2.1 res.2.2.2.2.2.2.2.2.2.2.2.1 res.2.2.2.2.2.2.2.2.2.2.2.2.1 x_t_table_places x_t_table_beginnings x_t_table_courtCount x_t_table_allowed x_t_table_sights x_t_table_kept x_t_table_text res.2.2.2.2.2.2.2.2.2.2.2.2.2.1 x_t_table_weights res.2.2.2.2.2.2.2.2.2.2.2.2.2.2.1 x_t_table_sightFrom res.2.2.2.2.2.2.2.2.2.2.2.2.2.2.2.1 x_t_table_sightOut res.2.2.2.2.2.2.2.2.2.2.2.2.2.2.2.2.1 res.2.2.2.2.2.2.2.2.2.2.2.2.2.2.2.2.2.1 res.2.2.2.2.2.2.2.2.2.2.2.2.2.2.2.2.2.2.1 res.2.2.2.2.2.2.2.2.2.2.2.2.2.2.2.2.2.2.2.1 res.2.2.2.2.2.2.2.2.2.2.2.2.2.2.2.2.2.2.2.2) res.1 := by
  refine CtI.of RX5 (by decide) rfl (Nat.le_of_ble_eq_true rfl) ?_
  intro p e s m below meth c A Q ls X hA hP hD hl fin
  have hx := X.1
  have hb := X.2.1
  have hl : lv_has ls 2 [(0, .ref a_t), (1, .int p1)] := hl
  have fin' : ∀ (fr0 : Int32) (fr1 : Int32) (fr2 : Int32) (fr3 : Int32) (fr4 : Int32) (fr5 : Int32) (fr6 : Int32) (fr7 : Int32) (fr8 : Int32) (fr9 : Int32) (fr10 : Int32) (fr11 : Int32) (fr12 : Int32) (fr13 : (Nat → Int32)) (fr14 : (Nat → Int32)) (fr15 : (Nat → Int32)) (fr16 : (Nat → Int32)) (fr17 : (Nat → Int32)) (fr18 : (Nat → Int32)) (fr19 : (Nat → Int32)) (fr20 : (Nat → Int32)), some (fr0, fr1, fr2, fr3, fr4, fr5, fr6, fr7, fr8, fr9, fr10, fr11, fr12, fr13, fr14, fr15, fr16, fr17, fr18, fr19, fr20) = some res → ∀ (pc : Nat) (ls : Array Slot) (H : Heap) (locs : List Loc), decode cX5_image pc = .ok (.ireturn, 1) → narrow .int (.int fr0) = .int fr0 → va_P E.1 vwCl (wd_X5_image E a_t a_t_images a_t_images_0 a_t_images_1 a_t_table a_t_table_text a_t_images_0_text a_t_table_weights a_t_images_0_weights a_t_table_sightFrom a_t_images_0_sightFrom a_t_table_sightOut a_t_images_0_sightOut a_t_images_1_text a_t_images_1_weights a_t_images_1_sightFrom a_t_images_1_sightOut w_t_pad x_t_signs w_t_pack w_t_row w_t_chances w_t_writing w_t_guess fr1 fr2 fr3 fr4 fr5 fr6 fr7 fr8 fr9 fr10 fr11 fr12 x_t_table_places x_t_table_beginnings x_t_table_courtCount x_t_table_allowed x_t_table_sights x_t_table_kept x_t_table_text fr13 x_t_table_weights fr14 x_t_table_sightFrom fr15 x_t_table_sightOut fr16 fr17 fr18 fr19 fr20) H → va_D A (wd_X5_image E a_t a_t_images a_t_images_0 a_t_images_1 a_t_table a_t_table_text a_t_images_0_text a_t_table_weights a_t_images_0_weights a_t_table_sightFrom a_t_images_0_sightFrom a_t_table_sightOut a_t_images_0_sightOut a_t_images_1_text a_t_images_1_weights a_t_images_1_sightFrom a_t_images_1_sightOut w_t_pad x_t_signs w_t_pack w_t_row w_t_chances w_t_writing w_t_guess fr1 fr2 fr3 fr4 fr5 fr6 fr7 fr8 fr9 fr10 fr11 fr12 x_t_table_places x_t_table_beginnings x_t_table_courtCount x_t_table_allowed x_t_table_sights x_t_table_kept x_t_table_text fr13 x_t_table_weights fr14 x_t_table_sightFrom fr15 x_t_table_sightOut fr16 fr17 fr18 fr19 fr20) → va_S A s.heap H locs → W p l e (rmm 2 81) s m ([.ref a_t, .int p1] : List Value).toArray below meth c H locs 0 0 Q (F0 m pc ls [.int fr0]) := by
    intro fr0 fr1 fr2 fr3 fr4 fr5 fr6 fr7 fr8 fr9 fr10 fr11 fr12 fr13 fr14 fr15 fr16 fr17 fr18 fr19 fr20 he
    cases he
    exact fin
  have hS : va_S A s.heap s.heap [] := va_S.rf
  obtain ⟨H, hH9⟩ : ∃ z, z = s.heap := ⟨_, rfl⟩
  obtain ⟨locs, hL9⟩ : ∃ z : List Loc, z = [] := ⟨_, rfl⟩
  rw [← hL9]
  rw [← hL9] at hS
  have hP : va_P E.1 vwCl (wd_X5_image E a_t a_t_images a_t_images_0 a_t_images_1 a_t_table a_t_table_text a_t_images_0_text a_t_table_weights a_t_images_0_weights a_t_table_sightFrom a_t_images_0_sightFrom a_t_table_sightOut a_t_images_0_sightOut a_t_images_1_text a_t_images_1_weights a_t_images_1_sightFrom a_t_images_1_sightOut w_t_pad x_t_signs w_t_pack w_t_row w_t_chances w_t_writing w_t_guess x_t_images_0_places x_t_images_0_beginnings x_t_images_0_courtCount x_t_images_0_allowed x_t_images_0_sights x_t_images_0_kept x_t_images_1_places x_t_images_1_beginnings x_t_images_1_courtCount x_t_images_1_allowed x_t_images_1_sights x_t_images_1_kept x_t_table_places x_t_table_beginnings x_t_table_courtCount x_t_table_allowed x_t_table_sights x_t_table_kept x_t_table_text x_t_images_0_text x_t_table_weights x_t_images_0_weights x_t_table_sightFrom x_t_images_0_sightFrom x_t_table_sightOut x_t_images_0_sightOut x_t_images_1_text x_t_images_1_weights x_t_images_1_sightFrom x_t_images_1_sightOut) H := by rw [hH9]; exact hP
  have hS : va_S A s.heap H locs := by rw [hH9]; exact hS
  suffices hgoal : W p l e (rmm 2 81) s m ([.ref a_t, .int p1] : List Value).toArray below meth c H locs 0 0 Q (F0 m 0 ls []) by rw [hH9] at hgoal; exact hgoal
  rw [f_X5_image] at hf
  refine lv_iload_n hx hb dX5_image_0 rfl (lv_at hl 1 rfl) ?_
  refine lv_if_lt (tgt := 9) hx hb dX5_image_1 (by decide) (fun c_1 => ?_) (fun c_1 => ?_)
  · have hf := if_t c_1 hf
    refine lv_bipush (v := (-2 : Int32)) hx hb dX5_image_9 (by decide) ?_
    exact fin' _ _ _ _ _ _ _ _ _ _ _ _ _ _ _ _ _ _ _ _ _ hf 11 ls H locs dX5_image_11 rfl hP hD hS
  · have hf := if_f c_1 hf
    refine lv_iload_n hx hb dX5_image_4 rfl (lv_at hl 1 rfl) ?_
    refine lv_iconst (v := (2 : Int32)) hx hb dX5_image_5 (by decide) ?_
    refine lv_icmp_lt (tgt := 12) hx hb dX5_image_6 (by decide) (fun c_6 => ?_) (fun c_6 => ?_)
    · have hf := if_t c_6 hf
      refine lv_aload_n hx hb dX5_image_12 rfl (lv_at hl 0 rfl) ?_
      refine gf_X5_24 X hP 0 rfl rfl dX5_image_13 ?_
      refine lv_iload_n hx hb dX5_image_16 rfl (lv_at hl 1 rfl) ?_
      by_cases hq17 : p1 = 0
      · have hf := if_t hq17 hf
        refine r_aald X hP 1 rfl (by rw [hq17]; decide) (v := a_t_images_0) (by rw [hq17]; rfl) dX5_image_17 ?_
        refine lv_aload_n hx hb dX5_image_18 rfl (lv_at hl 0 rfl) ?_
        refine gf_X5_20 X hP 0 rfl rfl dX5_image_19 ?_
        obtain ⟨r22, hc22, hf⟩ := bd_some hf
        refine cV_V X hA hP hD hS hl.1 (c_X3_copy l E a_t_images_0 a_t_table a_t_table_text a_t_images_0_text a_t_table_weights a_t_images_0_weights a_t_table_sightFrom a_t_images_0_sightFrom a_t_table_sightOut a_t_images_0_sightOut x_t_images_0_places x_t_images_0_beginnings x_t_images_0_courtCount x_t_images_0_allowed x_t_images_0_sights x_t_images_0_kept x_t_table_places x_t_table_beginnings x_t_table_courtCount x_t_table_allowed x_t_table_sights x_t_table_kept x_t_table_text x_t_images_0_text x_t_table_weights x_t_images_0_weights x_t_table_sightFrom x_t_images_0_sightFrom x_t_table_sightOut x_t_images_0_sightOut r22 hc22) 1 k_614 mw_X3_copy hd_X3_copy ⟨Nat.le_of_ble_eq_true rfl, Nat.le_of_ble_eq_true rfl⟩ [2, 4, 5, 6, 7, 8, 9, 10, 11, 12] [0, 1, 3, 13, 14, 15, 16] [0, 1, 7, 2, 8, 9, 10, 11, 12, 13, 14, 15, 16, 3, 4, 5, 6] rfl rfl (wr := [0, 1, 3, 13, 14, 15, 16].filterMap (fun i => (wd_X5_image E a_t a_t_images a_t_images_0 a_t_images_1 a_t_table a_t_table_text a_t_images_0_text a_t_table_weights a_t_images_0_weights a_t_table_sightFrom a_t_images_0_sightFrom a_t_table_sightOut a_t_images_0_sightOut a_t_images_1_text a_t_images_1_weights a_t_images_1_sightFrom a_t_images_1_sightOut w_t_pad x_t_signs w_t_pack w_t_row w_t_chances w_t_writing w_t_guess x_t_images_0_places x_t_images_0_beginnings x_t_images_0_courtCount x_t_images_0_allowed x_t_images_0_sights x_t_images_0_kept x_t_images_1_places x_t_images_1_beginnings x_t_images_1_courtCount x_t_images_1_allowed x_t_images_1_sights x_t_images_1_kept x_t_table_places x_t_table_beginnings x_t_table_courtCount x_t_table_allowed x_t_table_sights x_t_table_kept x_t_table_text x_t_images_0_text x_t_table_weights x_t_images_0_weights x_t_table_sightFrom x_t_images_0_sightFrom x_t_table_sightOut x_t_images_0_sightOut x_t_images_1_text x_t_images_1_weights x_t_images_1_sightFrom x_t_images_1_sightOut)[i]?)) rfl rfl rfl 3 0 rfl rfl rfl rfl rfl (Nat.le_of_ble_eq_true rfl) rfl (ws' := (wd_X5_image E a_t a_t_images a_t_images_0 a_t_images_1 a_t_table a_t_table_text a_t_images_0_text a_t_table_weights a_t_images_0_weights a_t_table_sightFrom a_t_images_0_sightFrom a_t_table_sightOut a_t_images_0_sightOut a_t_images_1_text a_t_images_1_weights a_t_images_1_sightFrom a_t_images_1_sightOut w_t_pad x_t_signs w_t_pack w_t_row w_t_chances w_t_writing w_t_guess r22.1 r22.2.1 r22.2.2.1 r22.2.2.2.1 r22.2.2.2.2.1 x_t_images_0_kept x_t_images_1_places x_t_images_1_beginnings x_t_images_1_courtCount x_t_images_1_allowed x_t_images_1_sights x_t_images_1_kept x_t_table_places x_t_table_beginnings x_t_table_courtCount x_t_table_allowed x_t_table_sights x_t_table_kept x_t_table_text r22.2.2.2.2.2.1 x_t_table_weights r22.2.2.2.2.2.2.1 x_t_table_sightFrom r22.2.2.2.2.2.2.2.1 x_t_table_sightOut r22.2.2.2.2.2.2.2.2 x_t_images_1_text x_t_images_1_weights x_t_images_1_sightFrom x_t_images_1_sightOut)) rfl ⟨Nat.le_of_ble_eq_true rfl, Nat.le_of_ble_eq_true rfl⟩ dX5_image_22 (fun H locs hP hD hS => ?_)
        refine lv_aload_n hx hb dX5_image_25 rfl (lv_at hl 0 rfl) ?_
        refine gf_X5_24 X hP 0 rfl rfl dX5_image_26 ?_
        refine lv_iload_n hx hb dX5_image_29 rfl (lv_at hl 1 rfl) ?_
        by_cases hq30 : p1 = 0
        · have hf := if_t hq30 hf
          refine r_aald X hP 1 rfl (by rw [hq30]; decide) (v := a_t_images_0) (by rw [hq30]; rfl) dX5_image_30 ?_
          refine lv_iconst (v := (1 : Int32)) hx hb dX5_image_31 (by decide) ?_
          refine pf_X5_224 X hP hD hS 2 rfl rfl (Nat.le_of_ble_eq_true rfl) (ws' := (wd_X5_image E a_t a_t_images a_t_images_0 a_t_images_1 a_t_table a_t_table_text a_t_images_0_text a_t_table_weights a_t_images_0_weights a_t_table_sightFrom a_t_images_0_sightFrom a_t_table_sightOut a_t_images_0_sightOut a_t_images_1_text a_t_images_1_weights a_t_images_1_sightFrom a_t_images_1_sightOut w_t_pad x_t_signs w_t_pack w_t_row w_t_chances w_t_writing w_t_guess r22.1 r22.2.1 r22.2.2.1 r22.2.2.2.1 r22.2.2.2.2.1 (1 : Int32) x_t_images_1_places x_t_images_1_beginnings x_t_images_1_courtCount x_t_images_1_allowed x_t_images_1_sights x_t_images_1_kept x_t_table_places x_t_table_beginnings x_t_table_courtCount x_t_table_allowed x_t_table_sights x_t_table_kept x_t_table_text r22.2.2.2.2.2.1 x_t_table_weights r22.2.2.2.2.2.2.1 x_t_table_sightFrom r22.2.2.2.2.2.2.2.1 x_t_table_sightOut r22.2.2.2.2.2.2.2.2 x_t_images_1_text x_t_images_1_weights x_t_images_1_sightFrom x_t_images_1_sightOut)) rfl dX5_image_32 (fun H locs hP hD hS => ?_)
          refine lv_iconst (v := (1 : Int32)) hx hb dX5_image_35 (by decide) ?_
          exact fin' _ _ _ _ _ _ _ _ _ _ _ _ _ _ _ _ _ _ _ _ _ hf 36 ls H locs dX5_image_36 rfl hP hD hS
        have hf := if_f hq30 hf
        by_cases hq30 : p1 = 1
        · have hf := if_t hq30 hf
          refine r_aald X hP 1 rfl (by rw [hq30]; decide) (v := a_t_images_1) (by rw [hq30]; rfl) dX5_image_30 ?_
          refine lv_iconst (v := (1 : Int32)) hx hb dX5_image_31 (by decide) ?_
          refine pf_X5_224 X hP hD hS 3 rfl rfl (Nat.le_of_ble_eq_true rfl) (ws' := (wd_X5_image E a_t a_t_images a_t_images_0 a_t_images_1 a_t_table a_t_table_text a_t_images_0_text a_t_table_weights a_t_images_0_weights a_t_table_sightFrom a_t_images_0_sightFrom a_t_table_sightOut a_t_images_0_sightOut a_t_images_1_text a_t_images_1_weights a_t_images_1_sightFrom a_t_images_1_sightOut w_t_pad x_t_signs w_t_pack w_t_row w_t_chances w_t_writing w_t_guess r22.1 r22.2.1 r22.2.2.1 r22.2.2.2.1 r22.2.2.2.2.1 x_t_images_0_kept x_t_images_1_places x_t_images_1_beginnings x_t_images_1_courtCount x_t_images_1_allowed x_t_images_1_sights (1 : Int32) x_t_table_places x_t_table_beginnings x_t_table_courtCount x_t_table_allowed x_t_table_sights x_t_table_kept x_t_table_text r22.2.2.2.2.2.1 x_t_table_weights r22.2.2.2.2.2.2.1 x_t_table_sightFrom r22.2.2.2.2.2.2.2.1 x_t_table_sightOut r22.2.2.2.2.2.2.2.2 x_t_images_1_text x_t_images_1_weights x_t_images_1_sightFrom x_t_images_1_sightOut)) rfl dX5_image_32 (fun H locs hP hD hS => ?_)
          refine lv_iconst (v := (1 : Int32)) hx hb dX5_image_35 (by decide) ?_
          exact fin' _ _ _ _ _ _ _ _ _ _ _ _ _ _ _ _ _ _ _ _ _ hf 36 ls H locs dX5_image_36 rfl hP hD hS
        have hf := if_f hq30 hf
        cases hf
      have hf := if_f hq17 hf
      by_cases hq17 : p1 = 1
      · have hf := if_t hq17 hf
        refine r_aald X hP 1 rfl (by rw [hq17]; decide) (v := a_t_images_1) (by rw [hq17]; rfl) dX5_image_17 ?_
        refine lv_aload_n hx hb dX5_image_18 rfl (lv_at hl 0 rfl) ?_
        refine gf_X5_20 X hP 0 rfl rfl dX5_image_19 ?_
        obtain ⟨r22, hc22, hf⟩ := bd_some hf
        refine cV_V X hA hP hD hS hl.1 (c_X3_copy l E a_t_images_1 a_t_table a_t_table_text a_t_images_1_text a_t_table_weights a_t_images_1_weights a_t_table_sightFrom a_t_images_1_sightFrom a_t_table_sightOut a_t_images_1_sightOut x_t_images_1_places x_t_images_1_beginnings x_t_images_1_courtCount x_t_images_1_allowed x_t_images_1_sights x_t_images_1_kept x_t_table_places x_t_table_beginnings x_t_table_courtCount x_t_table_allowed x_t_table_sights x_t_table_kept x_t_table_text x_t_images_1_text x_t_table_weights x_t_images_1_weights x_t_table_sightFrom x_t_images_1_sightFrom x_t_table_sightOut x_t_images_1_sightOut r22 hc22) 1 k_614 mw_X3_copy hd_X3_copy ⟨Nat.le_of_ble_eq_true rfl, Nat.le_of_ble_eq_true rfl⟩ [3, 4, 5, 13, 7, 14, 9, 15, 11, 16] [0, 1, 2, 6, 8, 10, 12] [0, 1, 2, 7, 8, 9, 3, 11, 4, 13, 5, 15, 6, 10, 12, 14, 16] rfl rfl (wr := [0, 1, 2, 6, 8, 10, 12].filterMap (fun i => (wd_X5_image E a_t a_t_images a_t_images_0 a_t_images_1 a_t_table a_t_table_text a_t_images_0_text a_t_table_weights a_t_images_0_weights a_t_table_sightFrom a_t_images_0_sightFrom a_t_table_sightOut a_t_images_0_sightOut a_t_images_1_text a_t_images_1_weights a_t_images_1_sightFrom a_t_images_1_sightOut w_t_pad x_t_signs w_t_pack w_t_row w_t_chances w_t_writing w_t_guess x_t_images_0_places x_t_images_0_beginnings x_t_images_0_courtCount x_t_images_0_allowed x_t_images_0_sights x_t_images_0_kept x_t_images_1_places x_t_images_1_beginnings x_t_images_1_courtCount x_t_images_1_allowed x_t_images_1_sights x_t_images_1_kept x_t_table_places x_t_table_beginnings x_t_table_courtCount x_t_table_allowed x_t_table_sights x_t_table_kept x_t_table_text x_t_images_0_text x_t_table_weights x_t_images_0_weights x_t_table_sightFrom x_t_images_0_sightFrom x_t_table_sightOut x_t_images_0_sightOut x_t_images_1_text x_t_images_1_weights x_t_images_1_sightFrom x_t_images_1_sightOut)[i]?)) rfl rfl rfl 3 0 rfl rfl rfl rfl rfl (Nat.le_of_ble_eq_true rfl) rfl (ws' := (wd_X5_image E a_t a_t_images a_t_images_0 a_t_images_1 a_t_table a_t_table_text a_t_images_0_text a_t_table_weights a_t_images_0_weights a_t_table_sightFrom a_t_images_0_sightFrom a_t_table_sightOut a_t_images_0_sightOut a_t_images_1_text a_t_images_1_weights a_t_images_1_sightFrom a_t_images_1_sightOut w_t_pad x_t_signs w_t_pack w_t_row w_t_chances w_t_writing w_t_guess x_t_images_0_places x_t_images_0_beginnings x_t_images_0_courtCount x_t_images_0_allowed x_t_images_0_sights x_t_images_0_kept r22.1 r22.2.1 r22.2.2.1 r22.2.2.2.1 r22.2.2.2.2.1 x_t_images_1_kept x_t_table_places x_t_table_beginnings x_t_table_courtCount x_t_table_allowed x_t_table_sights x_t_table_kept x_t_table_text x_t_images_0_text x_t_table_weights x_t_images_0_weights x_t_table_sightFrom x_t_images_0_sightFrom x_t_table_sightOut x_t_images_0_sightOut r22.2.2.2.2.2.1 r22.2.2.2.2.2.2.1 r22.2.2.2.2.2.2.2.1 r22.2.2.2.2.2.2.2.2)) rfl ⟨Nat.le_of_ble_eq_true rfl, Nat.le_of_ble_eq_true rfl⟩ dX5_image_22 (fun H locs hP hD hS => ?_)
        refine lv_aload_n hx hb dX5_image_25 rfl (lv_at hl 0 rfl) ?_
        refine gf_X5_24 X hP 0 rfl rfl dX5_image_26 ?_
        refine lv_iload_n hx hb dX5_image_29 rfl (lv_at hl 1 rfl) ?_
        by_cases hq30 : p1 = 0
        · have hf := if_t hq30 hf
          refine r_aald X hP 1 rfl (by rw [hq30]; decide) (v := a_t_images_0) (by rw [hq30]; rfl) dX5_image_30 ?_
          refine lv_iconst (v := (1 : Int32)) hx hb dX5_image_31 (by decide) ?_
          refine pf_X5_224 X hP hD hS 2 rfl rfl (Nat.le_of_ble_eq_true rfl) (ws' := (wd_X5_image E a_t a_t_images a_t_images_0 a_t_images_1 a_t_table a_t_table_text a_t_images_0_text a_t_table_weights a_t_images_0_weights a_t_table_sightFrom a_t_images_0_sightFrom a_t_table_sightOut a_t_images_0_sightOut a_t_images_1_text a_t_images_1_weights a_t_images_1_sightFrom a_t_images_1_sightOut w_t_pad x_t_signs w_t_pack w_t_row w_t_chances w_t_writing w_t_guess x_t_images_0_places x_t_images_0_beginnings x_t_images_0_courtCount x_t_images_0_allowed x_t_images_0_sights (1 : Int32) r22.1 r22.2.1 r22.2.2.1 r22.2.2.2.1 r22.2.2.2.2.1 x_t_images_1_kept x_t_table_places x_t_table_beginnings x_t_table_courtCount x_t_table_allowed x_t_table_sights x_t_table_kept x_t_table_text x_t_images_0_text x_t_table_weights x_t_images_0_weights x_t_table_sightFrom x_t_images_0_sightFrom x_t_table_sightOut x_t_images_0_sightOut r22.2.2.2.2.2.1 r22.2.2.2.2.2.2.1 r22.2.2.2.2.2.2.2.1 r22.2.2.2.2.2.2.2.2)) rfl dX5_image_32 (fun H locs hP hD hS => ?_)
          refine lv_iconst (v := (1 : Int32)) hx hb dX5_image_35 (by decide) ?_
          exact fin' _ _ _ _ _ _ _ _ _ _ _ _ _ _ _ _ _ _ _ _ _ hf 36 ls H locs dX5_image_36 rfl hP hD hS
        have hf := if_f hq30 hf
        by_cases hq30 : p1 = 1
        · have hf := if_t hq30 hf
          refine r_aald X hP 1 rfl (by rw [hq30]; decide) (v := a_t_images_1) (by rw [hq30]; rfl) dX5_image_30 ?_
          refine lv_iconst (v := (1 : Int32)) hx hb dX5_image_31 (by decide) ?_
          refine pf_X5_224 X hP hD hS 3 rfl rfl (Nat.le_of_ble_eq_true rfl) (ws' := (wd_X5_image E a_t a_t_images a_t_images_0 a_t_images_1 a_t_table a_t_table_text a_t_images_0_text a_t_table_weights a_t_images_0_weights a_t_table_sightFrom a_t_images_0_sightFrom a_t_table_sightOut a_t_images_0_sightOut a_t_images_1_text a_t_images_1_weights a_t_images_1_sightFrom a_t_images_1_sightOut w_t_pad x_t_signs w_t_pack w_t_row w_t_chances w_t_writing w_t_guess x_t_images_0_places x_t_images_0_beginnings x_t_images_0_courtCount x_t_images_0_allowed x_t_images_0_sights x_t_images_0_kept r22.1 r22.2.1 r22.2.2.1 r22.2.2.2.1 r22.2.2.2.2.1 (1 : Int32) x_t_table_places x_t_table_beginnings x_t_table_courtCount x_t_table_allowed x_t_table_sights x_t_table_kept x_t_table_text x_t_images_0_text x_t_table_weights x_t_images_0_weights x_t_table_sightFrom x_t_images_0_sightFrom x_t_table_sightOut x_t_images_0_sightOut r22.2.2.2.2.2.1 r22.2.2.2.2.2.2.1 r22.2.2.2.2.2.2.2.1 r22.2.2.2.2.2.2.2.2)) rfl dX5_image_32 (fun H locs hP hD hS => ?_)
          refine lv_iconst (v := (1 : Int32)) hx hb dX5_image_35 (by decide) ?_
          exact fin' _ _ _ _ _ _ _ _ _ _ _ _ _ _ _ _ _ _ _ _ _ hf 36 ls H locs dX5_image_36 rfl hP hD hS
        have hf := if_f hq30 hf
        cases hf
      have hf := if_f hq17 hf
      cases hf
    · have hf := if_f c_6 hf
      refine lv_bipush (v := (-2 : Int32)) hx hb dX5_image_9 (by decide) ?_
      exact fin' _ _ _ _ _ _ _ _ _ _ _ _ _ _ _ _ _ _ _ _ _ hf 11 ls H locs dX5_image_11 rfl hP hD hS
abbrev wd_X5_restore (E : EN) (a_t : Nat) (a_t_images : Nat) (a_t_images_0 : Nat) (a_t_images_1 : Nat) (a_t_table : Nat) (a_t_images_0_text : Nat) (a_t_table_text : Nat) (a_t_images_0_weights : Nat) (a_t_table_weights : Nat) (a_t_images_0_sightFrom : Nat) (a_t_table_sightFrom : Nat) (a_t_images_0_sightOut : Nat) (a_t_table_sightOut : Nat) (a_t_images_1_text : Nat) (a_t_images_1_weights : Nat) (a_t_images_1_sightFrom : Nat) (a_t_images_1_sightOut : Nat) (w_t_pad : Value) (x_t_signs : Int32) (w_t_pack : Value) (w_t_row : Value) (w_t_chances : Value) (w_t_writing : Value) (w_t_guess : Value) (x_t_images_0_places : Int32) (x_t_images_0_beginnings : Int32) (x_t_images_0_courtCount : Int32) (x_t_images_0_allowed : Int32) (x_t_images_0_sights : Int32) (x_t_images_0_kept : Int32) (x_t_images_1_places : Int32) (x_t_images_1_beginnings : Int32) (x_t_images_1_courtCount : Int32) (x_t_images_1_allowed : Int32) (x_t_images_1_sights : Int32) (x_t_images_1_kept : Int32) (x_t_table_places : Int32) (x_t_table_beginnings : Int32) (x_t_table_courtCount : Int32) (x_t_table_allowed : Int32) (x_t_table_sights : Int32) (x_t_table_kept : Int32) (x_t_images_0_text : Nat → Int32) (x_t_table_text : Nat → Int32) (x_t_images_0_weights : Nat → Int32) (x_t_table_weights : Nat → Int32) (x_t_images_0_sightFrom : Nat → Int32) (x_t_table_sightFrom : Nat → Int32) (x_t_images_0_sightOut : Nat → Int32) (x_t_table_sightOut : Nat → Int32) (x_t_images_1_text : Nat → Int32) (x_t_images_1_weights : Nat → Int32) (x_t_images_1_sightFrom : Nat → Int32) (x_t_images_1_sightOut : Nat → Int32) : va_W := [(a_t, e_O 5 [w_t_pad, .int x_t_signs, .ref a_t_table, .ref a_t_images, w_t_pack, w_t_row, w_t_chances, w_t_writing, w_t_guess]), (a_t_images, e_T E 2 (va_up (va_up (fun _ => none) (ix (0 : Int32)) (some a_t_images_0)) (ix (1 : Int32)) (some a_t_images_1))), (a_t_images_0, e_O 3 [.ref a_t_images_0_text, .ref a_t_images_0_weights, .ref a_t_images_0_sightFrom, .ref a_t_images_0_sightOut, .int x_t_images_0_places, .int x_t_images_0_beginnings, .int x_t_images_0_courtCount, .int x_t_images_0_allowed, .int x_t_images_0_sights, .int x_t_images_0_kept]), (a_t_images_1, e_O 3 [.ref a_t_images_1_text, .ref a_t_images_1_weights, .ref a_t_images_1_sightFrom, .ref a_t_images_1_sightOut, .int x_t_images_1_places, .int x_t_images_1_beginnings, .int x_t_images_1_courtCount, .int x_t_images_1_allowed, .int x_t_images_1_sights, .int x_t_images_1_kept]), (a_t_table, e_O 3 [.ref a_t_table_text, .ref a_t_table_weights, .ref a_t_table_sightFrom, .ref a_t_table_sightOut, .int x_t_table_places, .int x_t_table_beginnings, .int x_t_table_courtCount, .int x_t_table_allowed, .int x_t_table_sights, .int x_t_table_kept]), (a_t_images_0_text, e_C E 40 x_t_images_0_text), (a_t_table_text, e_C E 40 x_t_table_text), (a_t_images_0_weights, e_I E 11 x_t_images_0_weights), (a_t_table_weights, e_I E 11 x_t_table_weights), (a_t_images_0_sightFrom, e_I E 6 x_t_images_0_sightFrom), (a_t_table_sightFrom, e_I E 6 x_t_table_sightFrom), (a_t_images_0_sightOut, e_I E 6 x_t_images_0_sightOut), (a_t_table_sightOut, e_I E 6 x_t_table_sightOut), (a_t_images_1_text, e_C E 40 x_t_images_1_text), (a_t_images_1_weights, e_I E 11 x_t_images_1_weights), (a_t_images_1_sightFrom, e_I E 6 x_t_images_1_sightFrom), (a_t_images_1_sightOut, e_I E 6 x_t_images_1_sightOut)]
def f_X5_restore (p1 : Int32) (x_t_images_0_places : Int32) (x_t_images_0_beginnings : Int32) (x_t_images_0_courtCount : Int32) (x_t_images_0_allowed : Int32) (x_t_images_0_sights : Int32) (x_t_images_0_kept : Int32) (x_t_images_1_places : Int32) (x_t_images_1_beginnings : Int32) (x_t_images_1_courtCount : Int32) (x_t_images_1_allowed : Int32) (x_t_images_1_sights : Int32) (x_t_images_1_kept : Int32) (x_t_table_places : Int32) (x_t_table_beginnings : Int32) (x_t_table_courtCount : Int32) (x_t_table_allowed : Int32) (x_t_table_sights : Int32) (x_t_images_0_text : Nat → Int32) (x_t_table_text : Nat → Int32) (x_t_images_0_weights : Nat → Int32) (x_t_table_weights : Nat → Int32) (x_t_images_0_sightFrom : Nat → Int32) (x_t_table_sightFrom : Nat → Int32) (x_t_images_0_sightOut : Nat → Int32) (x_t_table_sightOut : Nat → Int32) (x_t_images_1_text : Nat → Int32) (x_t_images_1_weights : Nat → Int32) (x_t_images_1_sightFrom : Nat → Int32) (x_t_images_1_sightOut : Nat → Int32) : Option (Int32 × Int32 × Int32 × Int32 × Int32 × Int32 × (Nat → Int32) × (Nat → Int32) × (Nat → Int32) × (Nat → Int32)) :=
  if p1 < 0 then
    some ((-2 : Int32), x_t_table_places, x_t_table_beginnings, x_t_table_courtCount, x_t_table_allowed, x_t_table_sights, x_t_table_text, x_t_table_weights, x_t_table_sightFrom, x_t_table_sightOut)
  else
    if p1 < (2 : Int32) then
      if p1 = 0 then
        if x_t_images_0_kept = 0 then
          some ((-3 : Int32), x_t_table_places, x_t_table_beginnings, x_t_table_courtCount, x_t_table_allowed, x_t_table_sights, x_t_table_text, x_t_table_weights, x_t_table_sightFrom, x_t_table_sightOut)
        else
          if p1 = 0 then
            Option.bind (f_X3_copy x_t_images_0_places x_t_images_0_beginnings x_t_images_0_courtCount x_t_images_0_allowed x_t_images_0_sights x_t_images_0_text x_t_table_text x_t_images_0_weights x_t_table_weights x_t_images_0_sightFrom x_t_table_sightFrom x_t_images_0_sightOut x_t_table_sightOut) (fun r37 =>
            some ((1 : Int32), r37.1, r37.2.1, r37.2.2.1, r37.2.2.2.1, r37.2.2.2.2.1, r37.2.2.2.2.2.1, r37.2.2.2.2.2.2.1, r37.2.2.2.2.2.2.2.1, r37.2.2.2.2.2.2.2.2))
          else
          if p1 = 1 then
            Option.bind (f_X3_copy x_t_images_1_places x_t_images_1_beginnings x_t_images_1_courtCount x_t_images_1_allowed x_t_images_1_sights x_t_images_1_text x_t_table_text x_t_images_1_weights x_t_table_weights x_t_images_1_sightFrom x_t_table_sightFrom x_t_images_1_sightOut x_t_table_sightOut) (fun r37 =>
            some ((1 : Int32), r37.1, r37.2.1, r37.2.2.1, r37.2.2.2.1, r37.2.2.2.2.1, r37.2.2.2.2.2.1, r37.2.2.2.2.2.2.1, r37.2.2.2.2.2.2.2.1, r37.2.2.2.2.2.2.2.2))
          else none
      else
      if p1 = 1 then
        if x_t_images_1_kept = 0 then
          some ((-3 : Int32), x_t_table_places, x_t_table_beginnings, x_t_table_courtCount, x_t_table_allowed, x_t_table_sights, x_t_table_text, x_t_table_weights, x_t_table_sightFrom, x_t_table_sightOut)
        else
          if p1 = 0 then
            Option.bind (f_X3_copy x_t_images_0_places x_t_images_0_beginnings x_t_images_0_courtCount x_t_images_0_allowed x_t_images_0_sights x_t_images_0_text x_t_table_text x_t_images_0_weights x_t_table_weights x_t_images_0_sightFrom x_t_table_sightFrom x_t_images_0_sightOut x_t_table_sightOut) (fun r37 =>
            some ((1 : Int32), r37.1, r37.2.1, r37.2.2.1, r37.2.2.2.1, r37.2.2.2.2.1, r37.2.2.2.2.2.1, r37.2.2.2.2.2.2.1, r37.2.2.2.2.2.2.2.1, r37.2.2.2.2.2.2.2.2))
          else
          if p1 = 1 then
            Option.bind (f_X3_copy x_t_images_1_places x_t_images_1_beginnings x_t_images_1_courtCount x_t_images_1_allowed x_t_images_1_sights x_t_images_1_text x_t_table_text x_t_images_1_weights x_t_table_weights x_t_images_1_sightFrom x_t_table_sightFrom x_t_images_1_sightOut x_t_table_sightOut) (fun r37 =>
            some ((1 : Int32), r37.1, r37.2.1, r37.2.2.1, r37.2.2.2.1, r37.2.2.2.2.1, r37.2.2.2.2.2.1, r37.2.2.2.2.2.2.1, r37.2.2.2.2.2.2.2.1, r37.2.2.2.2.2.2.2.2))
          else none
      else none
    else
      some ((-2 : Int32), x_t_table_places, x_t_table_beginnings, x_t_table_courtCount, x_t_table_allowed, x_t_table_sights, x_t_table_text, x_t_table_weights, x_t_table_sightFrom, x_t_table_sightOut)
set_option maxHeartbeats 4000000 in
set_option maxRecDepth 100000 in
theorem c_X5_restore (l : Launch) (E : EN) (a_t a_t_images a_t_images_0 a_t_images_1 a_t_table a_t_images_0_text a_t_table_text a_t_images_0_weights a_t_table_weights a_t_images_0_sightFrom a_t_table_sightFrom a_t_images_0_sightOut a_t_table_sightOut a_t_images_1_text a_t_images_1_weights a_t_images_1_sightFrom a_t_images_1_sightOut : Nat) (w_t_pad : Value) (x_t_signs : Int32) (w_t_pack : Value) (w_t_row : Value) (w_t_chances : Value) (w_t_writing : Value) (w_t_guess : Value) (x_t_images_0_places : Int32) (x_t_images_0_beginnings : Int32) (x_t_images_0_courtCount : Int32) (x_t_images_0_allowed : Int32) (x_t_images_0_sights : Int32) (x_t_images_0_kept : Int32) (x_t_images_1_places : Int32) (x_t_images_1_beginnings : Int32) (x_t_images_1_courtCount : Int32) (x_t_images_1_allowed : Int32) (x_t_images_1_sights : Int32) (x_t_images_1_kept : Int32) (x_t_table_places : Int32) (x_t_table_beginnings : Int32) (x_t_table_courtCount : Int32) (x_t_table_allowed : Int32) (x_t_table_sights : Int32) (x_t_table_kept : Int32) (x_t_images_0_text : Nat → Int32) (x_t_table_text : Nat → Int32) (x_t_images_0_weights : Nat → Int32) (x_t_table_weights : Nat → Int32) (x_t_images_0_sightFrom : Nat → Int32) (x_t_table_sightFrom : Nat → Int32) (x_t_images_0_sightOut : Nat → Int32) (x_t_table_sightOut : Nat → Int32) (x_t_images_1_text : Nat → Int32) (x_t_images_1_weights : Nat → Int32) (x_t_images_1_sightFrom : Nat → Int32) (x_t_images_1_sightOut : Nat → Int32) (p1 : Int32) (res : Int32 × Int32 × Int32 × Int32 × Int32 × Int32 × (Nat → Int32) × (Nat → Int32) × (Nat → Int32) × (Nat → Int32)) (hf : f_X5_restore p1 x_t_images_0_places x_t_images_0_beginnings x_t_images_0_courtCount x_t_images_0_allowed x_t_images_0_sights x_t_images_0_kept x_t_images_1_places x_t_images_1_beginnings x_t_images_1_courtCount x_t_images_1_allowed x_t_images_1_sights x_t_images_1_kept x_t_table_places x_t_table_beginnings x_t_table_courtCount x_t_table_allowed x_t_table_sights x_t_images_0_text x_t_table_text x_t_images_0_weights x_t_table_weights x_t_images_0_sightFrom x_t_table_sightFrom x_t_images_0_sightOut x_t_table_sightOut x_t_images_1_text x_t_images_1_weights x_t_images_1_sightFrom x_t_images_1_sightOut = some res) : CtI l yX5_restore cX5_restore 2 .int 2 81 E [.ref a_t, .int p1] (wd_X5_restore E a_t a_t_images a_t_images_0 a_t_images_1 a_t_table a_t_images_0_text a_t_table_text a_t_images_0_weights a_t_table_weights a_t_images_0_sightFrom a_t_table_sightFrom a_t_images_0_sightOut a_t_table_sightOut a_t_images_1_text a_t_images_1_weights a_t_images_1_sightFrom a_t_images_1_sightOut w_t_pad x_t_signs w_t_pack w_t_row w_t_chances w_t_writing w_t_guess x_t_images_0_places x_t_images_0_beginnings x_t_images_0_courtCount x_t_images_0_allowed x_t_images_0_sights x_t_images_0_kept x_t_images_1_places x_t_images_1_beginnings x_t_images_1_courtCount x_t_images_1_allowed x_t_images_1_sights x_t_images_1_kept x_t_table_places x_t_table_beginnings x_t_table_courtCount x_t_table_allowed x_t_table_sights x_t_table_kept x_t_images_0_text x_t_table_text x_t_images_0_weights x_t_table_weights x_t_images_0_sightFrom x_t_table_sightFrom x_t_images_0_sightOut x_t_table_sightOut x_t_images_1_text x_t_images_1_weights x_t_images_1_sightFrom x_t_images_1_sightOut) (wd_X5_restore E a_t a_t_images a_t_images_0 a_t_images_1 a_t_table a_t_images_0_text a_t_table_text a_t_images_0_weights a_t_table_weights a_t_images_0_sightFrom a_t_table_sightFrom a_t_images_0_sightOut a_t_table_sightOut a_t_images_1_text a_t_images_1_weights a_t_images_1_sightFrom a_t_images_1_sightOut w_t_pad x_t_signs w_t_pack w_t_row w_t_chances w_t_writing w_t_guess x_t_images_0_places x_t_images_0_beginnings x_t_images_0_courtCount x_t_images_0_allowed x_t_images_0_sights x_t_images_0_kept x_t_images_1_places x_t_images_1_beginnings x_t_images_1_courtCount x_t_images_1_allowed x_t_images_1_sights x_t_images_1_kept res.2.1 res.2.2.1 res.2.2.2.1 res.2.2.2.2.1 res.2.2.2.2.2.1 x_t_table_kept x_t_images_0_text res.2.2.2.2.2.2.1 x_t_images_0_weights res.2.2.2.2.2.2.2.1 x_t_images_0_sightFrom res.2.2.2.2.2.2.2.2.1 x_t_images_0_sightOut res.2.2.2.2.2.2.2.2.2 x_t_images_1_text x_t_images_1_weights x_t_images_1_sightFrom x_t_images_1_sightOut) res.1 := by
  refine CtI.of RX5 (by decide) rfl (Nat.le_of_ble_eq_true rfl) ?_
  intro p e s m below meth c A Q ls X hA hP hD hl fin
  have hx := X.1
  have hb := X.2.1
  have hl : lv_has ls 2 [(0, .ref a_t), (1, .int p1)] := hl
  have fin' : ∀ (fr0 : Int32) (fr1 : Int32) (fr2 : Int32) (fr3 : Int32) (fr4 : Int32) (fr5 : Int32) (fr6 : (Nat → Int32)) (fr7 : (Nat → Int32)) (fr8 : (Nat → Int32)) (fr9 : (Nat → Int32)), some (fr0, fr1, fr2, fr3, fr4, fr5, fr6, fr7, fr8, fr9) = some res → ∀ (pc : Nat) (ls : Array Slot) (H : Heap) (locs : List Loc), decode cX5_restore pc = .ok (.ireturn, 1) → narrow .int (.int fr0) = .int fr0 → va_P E.1 vwCl (wd_X5_restore E a_t a_t_images a_t_images_0 a_t_images_1 a_t_table a_t_images_0_text a_t_table_text a_t_images_0_weights a_t_table_weights a_t_images_0_sightFrom a_t_table_sightFrom a_t_images_0_sightOut a_t_table_sightOut a_t_images_1_text a_t_images_1_weights a_t_images_1_sightFrom a_t_images_1_sightOut w_t_pad x_t_signs w_t_pack w_t_row w_t_chances w_t_writing w_t_guess x_t_images_0_places x_t_images_0_beginnings x_t_images_0_courtCount x_t_images_0_allowed x_t_images_0_sights x_t_images_0_kept x_t_images_1_places x_t_images_1_beginnings x_t_images_1_courtCount x_t_images_1_allowed x_t_images_1_sights x_t_images_1_kept fr1 fr2 fr3 fr4 fr5 x_t_table_kept x_t_images_0_text fr6 x_t_images_0_weights fr7 x_t_images_0_sightFrom fr8 x_t_images_0_sightOut fr9 x_t_images_1_text x_t_images_1_weights x_t_images_1_sightFrom x_t_images_1_sightOut) H → va_D A (wd_X5_restore E a_t a_t_images a_t_images_0 a_t_images_1 a_t_table a_t_images_0_text a_t_table_text a_t_images_0_weights a_t_table_weights a_t_images_0_sightFrom a_t_table_sightFrom a_t_images_0_sightOut a_t_table_sightOut a_t_images_1_text a_t_images_1_weights a_t_images_1_sightFrom a_t_images_1_sightOut w_t_pad x_t_signs w_t_pack w_t_row w_t_chances w_t_writing w_t_guess x_t_images_0_places x_t_images_0_beginnings x_t_images_0_courtCount x_t_images_0_allowed x_t_images_0_sights x_t_images_0_kept x_t_images_1_places x_t_images_1_beginnings x_t_images_1_courtCount x_t_images_1_allowed x_t_images_1_sights x_t_images_1_kept fr1 fr2 fr3 fr4 fr5 x_t_table_kept x_t_images_0_text fr6 x_t_images_0_weights fr7 x_t_images_0_sightFrom fr8 x_t_images_0_sightOut fr9 x_t_images_1_text x_t_images_1_weights x_t_images_1_sightFrom x_t_images_1_sightOut) → va_S A s.heap H locs → W p l e (rmm 2 81) s m ([.ref a_t, .int p1] : List Value).toArray below meth c H locs 0 0 Q (F0 m pc ls [.int fr0]) := by
    intro fr0 fr1 fr2 fr3 fr4 fr5 fr6 fr7 fr8 fr9 he
    cases he
    exact fin
  have hS : va_S A s.heap s.heap [] := va_S.rf
  obtain ⟨H, hH9⟩ : ∃ z, z = s.heap := ⟨_, rfl⟩
  obtain ⟨locs, hL9⟩ : ∃ z : List Loc, z = [] := ⟨_, rfl⟩
  rw [← hL9]
  rw [← hL9] at hS
  have hP : va_P E.1 vwCl (wd_X5_restore E a_t a_t_images a_t_images_0 a_t_images_1 a_t_table a_t_images_0_text a_t_table_text a_t_images_0_weights a_t_table_weights a_t_images_0_sightFrom a_t_table_sightFrom a_t_images_0_sightOut a_t_table_sightOut a_t_images_1_text a_t_images_1_weights a_t_images_1_sightFrom a_t_images_1_sightOut w_t_pad x_t_signs w_t_pack w_t_row w_t_chances w_t_writing w_t_guess x_t_images_0_places x_t_images_0_beginnings x_t_images_0_courtCount x_t_images_0_allowed x_t_images_0_sights x_t_images_0_kept x_t_images_1_places x_t_images_1_beginnings x_t_images_1_courtCount x_t_images_1_allowed x_t_images_1_sights x_t_images_1_kept x_t_table_places x_t_table_beginnings x_t_table_courtCount x_t_table_allowed x_t_table_sights x_t_table_kept x_t_images_0_text x_t_table_text x_t_images_0_weights x_t_table_weights x_t_images_0_sightFrom x_t_table_sightFrom x_t_images_0_sightOut x_t_table_sightOut x_t_images_1_text x_t_images_1_weights x_t_images_1_sightFrom x_t_images_1_sightOut) H := by rw [hH9]; exact hP
  have hS : va_S A s.heap H locs := by rw [hH9]; exact hS
  suffices hgoal : W p l e (rmm 2 81) s m ([.ref a_t, .int p1] : List Value).toArray below meth c H locs 0 0 Q (F0 m 0 ls []) by rw [hH9] at hgoal; exact hgoal
  rw [f_X5_restore] at hf
  refine lv_iload_n hx hb dX5_restore_0 rfl (lv_at hl 1 rfl) ?_
  refine lv_if_lt (tgt := 9) hx hb dX5_restore_1 (by decide) (fun c_1 => ?_) (fun c_1 => ?_)
  · have hf := if_t c_1 hf
    refine lv_bipush (v := (-2 : Int32)) hx hb dX5_restore_9 (by decide) ?_
    exact fin' _ _ _ _ _ _ _ _ _ _ hf 11 ls H locs dX5_restore_11 rfl hP hD hS
  · have hf := if_f c_1 hf
    refine lv_iload_n hx hb dX5_restore_4 rfl (lv_at hl 1 rfl) ?_
    refine lv_iconst (v := (2 : Int32)) hx hb dX5_restore_5 (by decide) ?_
    refine lv_icmp_lt (tgt := 12) hx hb dX5_restore_6 (by decide) (fun c_6 => ?_) (fun c_6 => ?_)
    · have hf := if_t c_6 hf
      refine lv_aload_n hx hb dX5_restore_12 rfl (lv_at hl 0 rfl) ?_
      refine gf_X5_24 X hP 0 rfl rfl dX5_restore_13 ?_
      refine lv_iload_n hx hb dX5_restore_16 rfl (lv_at hl 1 rfl) ?_
      by_cases hq17 : p1 = 0
      · have hf := if_t hq17 hf
        refine r_aald X hP 1 rfl (by rw [hq17]; decide) (v := a_t_images_0) (by rw [hq17]; rfl) dX5_restore_17 ?_
        refine gf_X5_224 X hP 2 rfl rfl dX5_restore_18 ?_
        refine lv_if_ne (tgt := 27) hx hb dX5_restore_21 (by decide) (fun c_21 => ?_) (fun c_21 => ?_)
        · have hf := if_f c_21 hf
          refine lv_aload_n hx hb dX5_restore_27 rfl (lv_at hl 0 rfl) ?_
          refine gf_X5_20 X hP 0 rfl rfl dX5_restore_28 ?_
          refine lv_aload_n hx hb dX5_restore_31 rfl (lv_at hl 0 rfl) ?_
          refine gf_X5_24 X hP 0 rfl rfl dX5_restore_32 ?_
          refine lv_iload_n hx hb dX5_restore_35 rfl (lv_at hl 1 rfl) ?_
          by_cases hq36 : p1 = 0
          · have hf := if_t hq36 hf
            refine r_aald X hP 1 rfl (by rw [hq36]; decide) (v := a_t_images_0) (by rw [hq36]; rfl) dX5_restore_36 ?_
            obtain ⟨r37, hc37, hf⟩ := bd_some hf
            refine cV_V X hA hP hD hS hl.1 (c_X3_copy l E a_t_table a_t_images_0 a_t_images_0_text a_t_table_text a_t_images_0_weights a_t_table_weights a_t_images_0_sightFrom a_t_table_sightFrom a_t_images_0_sightOut a_t_table_sightOut x_t_table_places x_t_table_beginnings x_t_table_courtCount x_t_table_allowed x_t_table_sights x_t_table_kept x_t_images_0_places x_t_images_0_beginnings x_t_images_0_courtCount x_t_images_0_allowed x_t_images_0_sights x_t_images_0_kept x_t_images_0_text x_t_table_text x_t_images_0_weights x_t_table_weights x_t_images_0_sightFrom x_t_table_sightFrom x_t_images_0_sightOut x_t_table_sightOut r37 hc37) 1 k_614 mw_X3_copy hd_X3_copy ⟨Nat.le_of_ble_eq_true rfl, Nat.le_of_ble_eq_true rfl⟩ [4, 2, 5, 6, 7, 8, 9, 10, 11, 12] [0, 1, 3, 13, 14, 15, 16] [0, 1, 8, 2, 7, 9, 10, 11, 12, 13, 14, 15, 16, 3, 4, 5, 6] rfl rfl (wr := [0, 1, 3, 13, 14, 15, 16].filterMap (fun i => (wd_X5_restore E a_t a_t_images a_t_images_0 a_t_images_1 a_t_table a_t_images_0_text a_t_table_text a_t_images_0_weights a_t_table_weights a_t_images_0_sightFrom a_t_table_sightFrom a_t_images_0_sightOut a_t_table_sightOut a_t_images_1_text a_t_images_1_weights a_t_images_1_sightFrom a_t_images_1_sightOut w_t_pad x_t_signs w_t_pack w_t_row w_t_chances w_t_writing w_t_guess x_t_images_0_places x_t_images_0_beginnings x_t_images_0_courtCount x_t_images_0_allowed x_t_images_0_sights x_t_images_0_kept x_t_images_1_places x_t_images_1_beginnings x_t_images_1_courtCount x_t_images_1_allowed x_t_images_1_sights x_t_images_1_kept x_t_table_places x_t_table_beginnings x_t_table_courtCount x_t_table_allowed x_t_table_sights x_t_table_kept x_t_images_0_text x_t_table_text x_t_images_0_weights x_t_table_weights x_t_images_0_sightFrom x_t_table_sightFrom x_t_images_0_sightOut x_t_table_sightOut x_t_images_1_text x_t_images_1_weights x_t_images_1_sightFrom x_t_images_1_sightOut)[i]?)) rfl rfl rfl 3 0 rfl rfl rfl rfl rfl (Nat.le_of_ble_eq_true rfl) rfl (ws' := (wd_X5_restore E a_t a_t_images a_t_images_0 a_t_images_1 a_t_table a_t_images_0_text a_t_table_text a_t_images_0_weights a_t_table_weights a_t_images_0_sightFrom a_t_table_sightFrom a_t_images_0_sightOut a_t_table_sightOut a_t_images_1_text a_t_images_1_weights a_t_images_1_sightFrom a_t_images_1_sightOut w_t_pad x_t_signs w_t_pack w_t_row w_t_chances w_t_writing w_t_guess x_t_images_0_places x_t_images_0_beginnings x_t_images_0_courtCount x_t_images_0_allowed x_t_images_0_sights x_t_images_0_kept x_t_images_1_places x_t_images_1_beginnings x_t_images_1_courtCount x_t_images_1_allowed x_t_images_1_sights x_t_images_1_kept r37.1 r37.2.1 r37.2.2.1 r37.2.2.2.1 r37.2.2.2.2.1 x_t_table_kept x_t_images_0_text r37.2.2.2.2.2.1 x_t_images_0_weights r37.2.2.2.2.2.2.1 x_t_images_0_sightFrom r37.2.2.2.2.2.2.2.1 x_t_images_0_sightOut r37.2.2.2.2.2.2.2.2 x_t_images_1_text x_t_images_1_weights x_t_images_1_sightFrom x_t_images_1_sightOut)) rfl ⟨Nat.le_of_ble_eq_true rfl, Nat.le_of_ble_eq_true rfl⟩ dX5_restore_37 (fun H locs hP hD hS => ?_)
            refine lv_iconst (v := (1 : Int32)) hx hb dX5_restore_40 (by decide) ?_
            exact fin' _ _ _ _ _ _ _ _ _ _ hf 41 ls H locs dX5_restore_41 rfl hP hD hS
          have hf := if_f hq36 hf
          by_cases hq36 : p1 = 1
          · have hf := if_t hq36 hf
            refine r_aald X hP 1 rfl (by rw [hq36]; decide) (v := a_t_images_1) (by rw [hq36]; rfl) dX5_restore_36 ?_
            obtain ⟨r37, hc37, hf⟩ := bd_some hf
            refine cV_V X hA hP hD hS hl.1 (c_X3_copy l E a_t_table a_t_images_1 a_t_images_1_text a_t_table_text a_t_images_1_weights a_t_table_weights a_t_images_1_sightFrom a_t_table_sightFrom a_t_images_1_sightOut a_t_table_sightOut x_t_table_places x_t_table_beginnings x_t_table_courtCount x_t_table_allowed x_t_table_sights x_t_table_kept x_t_images_1_places x_t_images_1_beginnings x_t_images_1_courtCount x_t_images_1_allowed x_t_images_1_sights x_t_images_1_kept x_t_images_1_text x_t_table_text x_t_images_1_weights x_t_table_weights x_t_images_1_sightFrom x_t_table_sightFrom x_t_images_1_sightOut x_t_table_sightOut r37 hc37) 1 k_614 mw_X3_copy hd_X3_copy ⟨Nat.le_of_ble_eq_true rfl, Nat.le_of_ble_eq_true rfl⟩ [4, 3, 13, 6, 14, 8, 15, 10, 16, 12] [0, 1, 2, 5, 7, 9, 11] [0, 1, 2, 8, 7, 3, 10, 4, 12, 5, 14, 6, 16, 9, 11, 13, 15] rfl rfl (wr := [0, 1, 2, 5, 7, 9, 11].filterMap (fun i => (wd_X5_restore E a_t a_t_images a_t_images_0 a_t_images_1 a_t_table a_t_images_0_text a_t_table_text a_t_images_0_weights a_t_table_weights a_t_images_0_sightFrom a_t_table_sightFrom a_t_images_0_sightOut a_t_table_sightOut a_t_images_1_text a_t_images_1_weights a_t_images_1_sightFrom a_t_images_1_sightOut w_t_pad x_t_signs w_t_pack w_t_row w_t_chances w_t_writing w_t_guess x_t_images_0_places x_t_images_0_beginnings x_t_images_0_courtCount x_t_images_0_allowed x_t_images_0_sights x_t_images_0_kept x_t_images_1_places x_t_images_1_beginnings x_t_images_1_courtCount x_t_images_1_allowed x_t_images_1_sights x_t_images_1_kept x_t_table_places x_t_table_beginnings x_t_table_courtCount x_t_table_allowed x_t_table_sights x_t_table_kept x_t_images_0_text x_t_table_text x_t_images_0_weights x_t_table_weights x_t_images_0_sightFrom x_t_table_sightFrom x_t_images_0_sightOut x_t_table_sightOut x_t_images_1_text x_t_images_1_weights x_t_images_1_sightFrom x_t_images_1_sightOut)[i]?)) rfl rfl rfl 3 0 rfl rfl rfl rfl rfl (Nat.le_of_ble_eq_true rfl) rfl (ws' := (wd_X5_restore E a_t a_t_images a_t_images_0 a_t_images_1 a_t_table a_t_images_0_text a_t_table_text a_t_images_0_weights a_t_table_weights a_t_images_0_sightFrom a_t_table_sightFrom a_t_images_0_sightOut a_t_table_sightOut a_t_images_1_text a_t_images_1_weights a_t_images_1_sightFrom a_t_images_1_sightOut w_t_pad x_t_signs w_t_pack w_t_row w_t_chances w_t_writing w_t_guess x_t_images_0_places x_t_images_0_beginnings x_t_images_0_courtCount x_t_images_0_allowed x_t_images_0_sights x_t_images_0_kept x_t_images_1_places x_t_images_1_beginnings x_t_images_1_courtCount x_t_images_1_allowed x_t_images_1_sights x_t_images_1_kept r37.1 r37.2.1 r37.2.2.1 r37.2.2.2.1 r37.2.2.2.2.1 x_t_table_kept x_t_images_0_text r37.2.2.2.2.2.1 x_t_images_0_weights r37.2.2.2.2.2.2.1 x_t_images_0_sightFrom r37.2.2.2.2.2.2.2.1 x_t_images_0_sightOut r37.2.2.2.2.2.2.2.2 x_t_images_1_text x_t_images_1_weights x_t_images_1_sightFrom x_t_images_1_sightOut)) rfl ⟨Nat.le_of_ble_eq_true rfl, Nat.le_of_ble_eq_true rfl⟩ dX5_restore_37 (fun H locs hP hD hS => ?_)
            refine lv_iconst (v := (1 : Int32)) hx hb dX5_restore_40 (by decide) ?_
            exact fin' _ _ _ _ _ _ _ _ _ _ hf 41 ls H locs dX5_restore_41 rfl hP hD hS
          have hf := if_f hq36 hf
          cases hf
        · have hf := if_t c_21 hf
          refine lv_bipush (v := (-3 : Int32)) hx hb dX5_restore_24 (by decide) ?_
          exact fin' _ _ _ _ _ _ _ _ _ _ hf 26 ls H locs dX5_restore_26 rfl hP hD hS
      have hf := if_f hq17 hf
      by_cases hq17 : p1 = 1
      · have hf := if_t hq17 hf
        refine r_aald X hP 1 rfl (by rw [hq17]; decide) (v := a_t_images_1) (by rw [hq17]; rfl) dX5_restore_17 ?_
        refine gf_X5_224 X hP 3 rfl rfl dX5_restore_18 ?_
        refine lv_if_ne (tgt := 27) hx hb dX5_restore_21 (by decide) (fun c_21 => ?_) (fun c_21 => ?_)
        · have hf := if_f c_21 hf
          refine lv_aload_n hx hb dX5_restore_27 rfl (lv_at hl 0 rfl) ?_
          refine gf_X5_20 X hP 0 rfl rfl dX5_restore_28 ?_
          refine lv_aload_n hx hb dX5_restore_31 rfl (lv_at hl 0 rfl) ?_
          refine gf_X5_24 X hP 0 rfl rfl dX5_restore_32 ?_
          refine lv_iload_n hx hb dX5_restore_35 rfl (lv_at hl 1 rfl) ?_
          by_cases hq36 : p1 = 0
          · have hf := if_t hq36 hf
            refine r_aald X hP 1 rfl (by rw [hq36]; decide) (v := a_t_images_0) (by rw [hq36]; rfl) dX5_restore_36 ?_
            obtain ⟨r37, hc37, hf⟩ := bd_some hf
            refine cV_V X hA hP hD hS hl.1 (c_X3_copy l E a_t_table a_t_images_0 a_t_images_0_text a_t_table_text a_t_images_0_weights a_t_table_weights a_t_images_0_sightFrom a_t_table_sightFrom a_t_images_0_sightOut a_t_table_sightOut x_t_table_places x_t_table_beginnings x_t_table_courtCount x_t_table_allowed x_t_table_sights x_t_table_kept x_t_images_0_places x_t_images_0_beginnings x_t_images_0_courtCount x_t_images_0_allowed x_t_images_0_sights x_t_images_0_kept x_t_images_0_text x_t_table_text x_t_images_0_weights x_t_table_weights x_t_images_0_sightFrom x_t_table_sightFrom x_t_images_0_sightOut x_t_table_sightOut r37 hc37) 1 k_614 mw_X3_copy hd_X3_copy ⟨Nat.le_of_ble_eq_true rfl, Nat.le_of_ble_eq_true rfl⟩ [4, 2, 5, 6, 7, 8, 9, 10, 11, 12] [0, 1, 3, 13, 14, 15, 16] [0, 1, 8, 2, 7, 9, 10, 11, 12, 13, 14, 15, 16, 3, 4, 5, 6] rfl rfl (wr := [0, 1, 3, 13, 14, 15, 16].filterMap (fun i => (wd_X5_restore E a_t a_t_images a_t_images_0 a_t_images_1 a_t_table a_t_images_0_text a_t_table_text a_t_images_0_weights a_t_table_weights a_t_images_0_sightFrom a_t_table_sightFrom a_t_images_0_sightOut a_t_table_sightOut a_t_images_1_text a_t_images_1_weights a_t_images_1_sightFrom a_t_images_1_sightOut w_t_pad x_t_signs w_t_pack w_t_row w_t_chances w_t_writing w_t_guess x_t_images_0_places x_t_images_0_beginnings x_t_images_0_courtCount x_t_images_0_allowed x_t_images_0_sights x_t_images_0_kept x_t_images_1_places x_t_images_1_beginnings x_t_images_1_courtCount x_t_images_1_allowed x_t_images_1_sights x_t_images_1_kept x_t_table_places x_t_table_beginnings x_t_table_courtCount x_t_table_allowed x_t_table_sights x_t_table_kept x_t_images_0_text x_t_table_text x_t_images_0_weights x_t_table_weights x_t_images_0_sightFrom x_t_table_sightFrom x_t_images_0_sightOut x_t_table_sightOut x_t_images_1_text x_t_images_1_weights x_t_images_1_sightFrom x_t_images_1_sightOut)[i]?)) rfl rfl rfl 3 0 rfl rfl rfl rfl rfl (Nat.le_of_ble_eq_true rfl) rfl (ws' := (wd_X5_restore E a_t a_t_images a_t_images_0 a_t_images_1 a_t_table a_t_images_0_text a_t_table_text a_t_images_0_weights a_t_table_weights a_t_images_0_sightFrom a_t_table_sightFrom a_t_images_0_sightOut a_t_table_sightOut a_t_images_1_text a_t_images_1_weights a_t_images_1_sightFrom a_t_images_1_sightOut w_t_pad x_t_signs w_t_pack w_t_row w_t_chances w_t_writing w_t_guess x_t_images_0_places x_t_images_0_beginnings x_t_images_0_courtCount x_t_images_0_allowed x_t_images_0_sights x_t_images_0_kept x_t_images_1_places x_t_images_1_beginnings x_t_images_1_courtCount x_t_images_1_allowed x_t_images_1_sights x_t_images_1_kept r37.1 r37.2.1 r37.2.2.1 r37.2.2.2.1 r37.2.2.2.2.1 x_t_table_kept x_t_images_0_text r37.2.2.2.2.2.1 x_t_images_0_weights r37.2.2.2.2.2.2.1 x_t_images_0_sightFrom r37.2.2.2.2.2.2.2.1 x_t_images_0_sightOut r37.2.2.2.2.2.2.2.2 x_t_images_1_text x_t_images_1_weights x_t_images_1_sightFrom x_t_images_1_sightOut)) rfl ⟨Nat.le_of_ble_eq_true rfl, Nat.le_of_ble_eq_true rfl⟩ dX5_restore_37 (fun H locs hP hD hS => ?_)
            refine lv_iconst (v := (1 : Int32)) hx hb dX5_restore_40 (by decide) ?_
            exact fin' _ _ _ _ _ _ _ _ _ _ hf 41 ls H locs dX5_restore_41 rfl hP hD hS
          have hf := if_f hq36 hf
          by_cases hq36 : p1 = 1
          · have hf := if_t hq36 hf
            refine r_aald X hP 1 rfl (by rw [hq36]; decide) (v := a_t_images_1) (by rw [hq36]; rfl) dX5_restore_36 ?_
            obtain ⟨r37, hc37, hf⟩ := bd_some hf
            refine cV_V X hA hP hD hS hl.1 (c_X3_copy l E a_t_table a_t_images_1 a_t_images_1_text a_t_table_text a_t_images_1_weights a_t_table_weights a_t_images_1_sightFrom a_t_table_sightFrom a_t_images_1_sightOut a_t_table_sightOut x_t_table_places x_t_table_beginnings x_t_table_courtCount x_t_table_allowed x_t_table_sights x_t_table_kept x_t_images_1_places x_t_images_1_beginnings x_t_images_1_courtCount x_t_images_1_allowed x_t_images_1_sights x_t_images_1_kept x_t_images_1_text x_t_table_text x_t_images_1_weights x_t_table_weights x_t_images_1_sightFrom x_t_table_sightFrom x_t_images_1_sightOut x_t_table_sightOut r37 hc37) 1 k_614 mw_X3_copy hd_X3_copy ⟨Nat.le_of_ble_eq_true rfl, Nat.le_of_ble_eq_true rfl⟩ [4, 3, 13, 6, 14, 8, 15, 10, 16, 12] [0, 1, 2, 5, 7, 9, 11] [0, 1, 2, 8, 7, 3, 10, 4, 12, 5, 14, 6, 16, 9, 11, 13, 15] rfl rfl (wr := [0, 1, 2, 5, 7, 9, 11].filterMap (fun i => (wd_X5_restore E a_t a_t_images a_t_images_0 a_t_images_1 a_t_table a_t_images_0_text a_t_table_text a_t_images_0_weights a_t_table_weights a_t_images_0_sightFrom a_t_table_sightFrom a_t_images_0_sightOut a_t_table_sightOut a_t_images_1_text a_t_images_1_weights a_t_images_1_sightFrom a_t_images_1_sightOut w_t_pad x_t_signs w_t_pack w_t_row w_t_chances w_t_writing w_t_guess x_t_images_0_places x_t_images_0_beginnings x_t_images_0_courtCount x_t_images_0_allowed x_t_images_0_sights x_t_images_0_kept x_t_images_1_places x_t_images_1_beginnings x_t_images_1_courtCount x_t_images_1_allowed x_t_images_1_sights x_t_images_1_kept x_t_table_places x_t_table_beginnings x_t_table_courtCount x_t_table_allowed x_t_table_sights x_t_table_kept x_t_images_0_text x_t_table_text x_t_images_0_weights x_t_table_weights x_t_images_0_sightFrom x_t_table_sightFrom x_t_images_0_sightOut x_t_table_sightOut x_t_images_1_text x_t_images_1_weights x_t_images_1_sightFrom x_t_images_1_sightOut)[i]?)) rfl rfl rfl 3 0 rfl rfl rfl rfl rfl (Nat.le_of_ble_eq_true rfl) rfl (ws' := (wd_X5_restore E a_t a_t_images a_t_images_0 a_t_images_1 a_t_table a_t_images_0_text a_t_table_text a_t_images_0_weights a_t_table_weights a_t_images_0_sightFrom a_t_table_sightFrom a_t_images_0_sightOut a_t_table_sightOut a_t_images_1_text a_t_images_1_weights a_t_images_1_sightFrom a_t_images_1_sightOut w_t_pad x_t_signs w_t_pack w_t_row w_t_chances w_t_writing w_t_guess x_t_images_0_places x_t_images_0_beginnings x_t_images_0_courtCount x_t_images_0_allowed x_t_images_0_sights x_t_images_0_kept x_t_images_1_places x_t_images_1_beginnings x_t_images_1_courtCount x_t_images_1_allowed x_t_images_1_sights x_t_images_1_kept r37.1 r37.2.1 r37.2.2.1 r37.2.2.2.1 r37.2.2.2.2.1 x_t_table_kept x_t_images_0_text r37.2.2.2.2.2.1 x_t_images_0_weights r37.2.2.2.2.2.2.1 x_t_images_0_sightFrom r37.2.2.2.2.2.2.2.1 x_t_images_0_sightOut r37.2.2.2.2.2.2.2.2 x_t_images_1_text x_t_images_1_weights x_t_images_1_sightFrom x_t_images_1_sightOut)) rfl ⟨Nat.le_of_ble_eq_true rfl, Nat.le_of_ble_eq_true rfl⟩ dX5_restore_37 (fun H locs hP hD hS => ?_)
            refine lv_iconst (v := (1 : Int32)) hx hb dX5_restore_40 (by decide) ?_
            exact fin' _ _ _ _ _ _ _ _ _ _ hf 41 ls H locs dX5_restore_41 rfl hP hD hS
          have hf := if_f hq36 hf
          cases hf
        · have hf := if_t c_21 hf
          refine lv_bipush (v := (-3 : Int32)) hx hb dX5_restore_24 (by decide) ?_
          exact fin' _ _ _ _ _ _ _ _ _ _ hf 26 ls H locs dX5_restore_26 rfl hP hD hS
      have hf := if_f hq17 hf
      cases hf
    · have hf := if_f c_6 hf
      refine lv_bipush (v := (-2 : Int32)) hx hb dX5_restore_9 (by decide) ?_
      exact fin' _ _ _ _ _ _ _ _ _ _ hf 11 ls H locs dX5_restore_11 rfl hP hD hS
abbrev wd_X5_told (E : EN) (a_t : Nat) (a_t_table : Nat) (a_t_table_weights : Nat) (a_t_table_text : Nat) (w_t_pad : Value) (x_t_signs : Int32) (w_t_images : Value) (w_t_pack : Value) (w_t_row : Value) (w_t_chances : Value) (w_t_writing : Value) (w_t_guess : Value) (w_t_table_sightFrom : Value) (w_t_table_sightOut : Value) (x_t_table_places : Int32) (x_t_table_beginnings : Int32) (x_t_table_courtCount : Int32) (x_t_table_allowed : Int32) (x_t_table_sights : Int32) (x_t_table_kept : Int32) (x_t_table_weights : Nat → Int32) (x_t_table_text : Nat → Int32) : va_W := [(a_t, e_O 5 [w_t_pad, .int x_t_signs, .ref a_t_table, w_t_images, w_t_pack, w_t_row, w_t_chances, w_t_writing, w_t_guess]), (a_t_table, e_O 3 [.ref a_t_table_text, .ref a_t_table_weights, w_t_table_sightFrom, w_t_table_sightOut, .int x_t_table_places, .int x_t_table_beginnings, .int x_t_table_courtCount, .int x_t_table_allowed, .int x_t_table_sights, .int x_t_table_kept]), (a_t_table_weights, e_I E 11 x_t_table_weights), (a_t_table_text, e_C E 40 x_t_table_text)]
def f_X5_told_25 (p1 : Int32) (x_t_signs : Int32) (x_t_table_places : Int32) (x_t_table_beginnings : Int32) (x_t_table_courtCount : Int32) (x_t_table_allowed : Int32) (x_t_table_sights : Int32) (x_t_table_text : Nat → Int32)   : Option (Int32) :=
  if p1 = 0 then
    some x_t_signs
  else
  if p1 = 1 then
    some x_t_table_places
  else
  if p1 = 2 then
    some x_t_table_beginnings
  else
  if p1 = 3 then
    some x_t_table_courtCount
  else
  if p1 = 4 then
    some x_t_table_allowed
  else
  if p1 = 5 then
    Option.bind (f_X3_howMany (42 : Int32) x_t_table_places x_t_table_text) (fun r115 =>
    some r115)
  else
  if p1 = 6 then
    Option.bind (f_X3_howMany (63 : Int32) x_t_table_places x_t_table_text) (fun r125 =>
    some r125)
  else
  if p1 = 7 then
    some x_t_table_sights
  else
  some (-2 : Int32)
def f_X5_told (p1 : Int32) (x_t_signs : Int32) (x_t_table_places : Int32) (x_t_table_beginnings : Int32) (x_t_table_courtCount : Int32) (x_t_table_allowed : Int32) (x_t_table_sights : Int32) (x_t_table_weights : Nat → Int32) (x_t_table_text : Nat → Int32) : Option (Int32) :=
  if p1 ≤ (10 : Int32) then
    f_X5_told_25 p1 x_t_signs x_t_table_places x_t_table_beginnings x_t_table_courtCount x_t_table_allowed x_t_table_sights x_t_table_text 
  else
    if (20 : Int32) < p1 then
      f_X5_told_25 p1 x_t_signs x_t_table_places x_t_table_beginnings x_t_table_courtCount x_t_table_allowed x_t_table_sights x_t_table_text 
    else
      ck (inB (p1 - (10 : Int32)) 11) (
      some (x_t_table_weights (ix (p1 - (10 : Int32)))))
set_option maxHeartbeats 4000000 in
set_option maxRecDepth 100000 in
theorem c_X5_told (l : Launch) (E : EN) (a_t a_t_table a_t_table_weights a_t_table_text : Nat) (w_t_pad : Value) (x_t_signs : Int32) (w_t_images : Value) (w_t_pack : Value) (w_t_row : Value) (w_t_chances : Value) (w_t_writing : Value) (w_t_guess : Value) (w_t_table_sightFrom : Value) (w_t_table_sightOut : Value) (x_t_table_places : Int32) (x_t_table_beginnings : Int32) (x_t_table_courtCount : Int32) (x_t_table_allowed : Int32) (x_t_table_sights : Int32) (x_t_table_kept : Int32) (x_t_table_weights : Nat → Int32) (x_t_table_text : Nat → Int32) (p1 : Int32) (res : Int32) (hf : f_X5_told p1 x_t_signs x_t_table_places x_t_table_beginnings x_t_table_courtCount x_t_table_allowed x_t_table_sights x_t_table_weights x_t_table_text = some res) : CtI l yX5_told cX5_told 2 .int 1 23 E [.ref a_t, .int p1] (wd_X5_told E a_t a_t_table a_t_table_weights a_t_table_text w_t_pad x_t_signs w_t_images w_t_pack w_t_row w_t_chances w_t_writing w_t_guess w_t_table_sightFrom w_t_table_sightOut x_t_table_places x_t_table_beginnings x_t_table_courtCount x_t_table_allowed x_t_table_sights x_t_table_kept x_t_table_weights x_t_table_text) (wd_X5_told E a_t a_t_table a_t_table_weights a_t_table_text w_t_pad x_t_signs w_t_images w_t_pack w_t_row w_t_chances w_t_writing w_t_guess w_t_table_sightFrom w_t_table_sightOut x_t_table_places x_t_table_beginnings x_t_table_courtCount x_t_table_allowed x_t_table_sights x_t_table_kept x_t_table_weights x_t_table_text) res := by
  refine CtI.of RX5 (by decide) rfl (Nat.le_of_ble_eq_true rfl) ?_
  intro p e s m below meth c A Q ls X hA hP hD hl fin
  have hx := X.1
  have hb := X.2.1
  have hl : lv_has ls 2 [(0, .ref a_t), (1, .int p1)] := hl
  have fin' : ∀ (fr0 : Int32), some fr0 = some res → ∀ (pc : Nat) (ls : Array Slot) (H : Heap) (locs : List Loc), decode cX5_told pc = .ok (.ireturn, 1) → narrow .int (.int fr0) = .int fr0 → va_P E.1 vwCl (wd_X5_told E a_t a_t_table a_t_table_weights a_t_table_text w_t_pad x_t_signs w_t_images w_t_pack w_t_row w_t_chances w_t_writing w_t_guess w_t_table_sightFrom w_t_table_sightOut x_t_table_places x_t_table_beginnings x_t_table_courtCount x_t_table_allowed x_t_table_sights x_t_table_kept x_t_table_weights x_t_table_text) H → va_D A (wd_X5_told E a_t a_t_table a_t_table_weights a_t_table_text w_t_pad x_t_signs w_t_images w_t_pack w_t_row w_t_chances w_t_writing w_t_guess w_t_table_sightFrom w_t_table_sightOut x_t_table_places x_t_table_beginnings x_t_table_courtCount x_t_table_allowed x_t_table_sights x_t_table_kept x_t_table_weights x_t_table_text) → va_S A s.heap H locs → W p l e (rmm 1 23) s m ([.ref a_t, .int p1] : List Value).toArray below meth c H locs 0 0 Q (F0 m pc ls [.int fr0]) := by
    intro fr0 he
    cases he
    exact fin
  have L25 : f_X5_told_25 p1 x_t_signs x_t_table_places x_t_table_beginnings x_t_table_courtCount x_t_table_allowed x_t_table_sights x_t_table_text  = some res → ∀ (H : Heap) (locs : List Loc) (ls : Array Slot), va_P E.1 vwCl (wd_X5_told E a_t a_t_table a_t_table_weights a_t_table_text w_t_pad x_t_signs w_t_images w_t_pack w_t_row w_t_chances w_t_writing w_t_guess w_t_table_sightFrom w_t_table_sightOut x_t_table_places x_t_table_beginnings x_t_table_courtCount x_t_table_allowed x_t_table_sights x_t_table_kept x_t_table_weights x_t_table_text) H → va_D A (wd_X5_told E a_t a_t_table a_t_table_weights a_t_table_text w_t_pad x_t_signs w_t_images w_t_pack w_t_row w_t_chances w_t_writing w_t_guess w_t_table_sightFrom w_t_table_sightOut x_t_table_places x_t_table_beginnings x_t_table_courtCount x_t_table_allowed x_t_table_sights x_t_table_kept x_t_table_weights x_t_table_text) → va_S A s.heap H locs → lv_has ls 2 [(0, .ref a_t), (1, .int p1)] → W p l e (rmm 1 23) s m ([.ref a_t, .int p1] : List Value).toArray below meth c H locs 0 0 Q (F0 m 25 ls []) := by
    intro  hf H locs ls hP hD hS hl
    rw [f_X5_told_25] at hf
    refine lv_iload_n hx hb dX5_told_25 rfl (lv_at hl 1 rfl) ?_
    by_cases w26_0 : p1 = 0
    · have hf := if_t w26_0 hf
      refine lv_tableIn (off := 46) (tgt := 72) hx hb dX5_told_26 (by rw [w26_0]; decide) (by rw [w26_0]; decide) (by rw [w26_0]; rfl) (by decide) ?_
      refine lv_aload_n hx hb dX5_told_72 rfl (lv_at hl 0 rfl) ?_
      refine gf_X5_13 X hP 0 rfl rfl dX5_told_73 ?_
      exact fin' _ hf 76 ls H locs dX5_told_76 rfl hP hD hS
    have hf := if_f w26_0 hf
    by_cases w26_1 : p1 = 1
    · have hf := if_t w26_1 hf
      refine lv_tableIn (off := 51) (tgt := 77) hx hb dX5_told_26 (by rw [w26_1]; decide) (by rw [w26_1]; decide) (by rw [w26_1]; rfl) (by decide) ?_
      refine lv_aload_n hx hb dX5_told_77 rfl (lv_at hl 0 rfl) ?_
      refine gf_X5_20 X hP 0 rfl rfl dX5_told_78 ?_
      refine gf_X5_67 X hP 1 rfl rfl dX5_told_81 ?_
      exact fin' _ hf 84 ls H locs dX5_told_84 rfl hP hD hS
    have hf := if_f w26_1 hf
    by_cases w26_2 : p1 = 2
    · have hf := if_t w26_2 hf
      refine lv_tableIn (off := 59) (tgt := 85) hx hb dX5_told_26 (by rw [w26_2]; decide) (by rw [w26_2]; decide) (by rw [w26_2]; rfl) (by decide) ?_
      refine lv_aload_n hx hb dX5_told_85 rfl (lv_at hl 0 rfl) ?_
      refine gf_X5_20 X hP 0 rfl rfl dX5_told_86 ?_
      refine gf_X5_70 X hP 1 rfl rfl dX5_told_89 ?_
      exact fin' _ hf 92 ls H locs dX5_told_92 rfl hP hD hS
    have hf := if_f w26_2 hf
    by_cases w26_3 : p1 = 3
    · have hf := if_t w26_3 hf
      refine lv_tableIn (off := 67) (tgt := 93) hx hb dX5_told_26 (by rw [w26_3]; decide) (by rw [w26_3]; decide) (by rw [w26_3]; rfl) (by decide) ?_
      refine lv_aload_n hx hb dX5_told_93 rfl (lv_at hl 0 rfl) ?_
      refine gf_X5_20 X hP 0 rfl rfl dX5_told_94 ?_
      refine gf_X5_77 X hP 1 rfl rfl dX5_told_97 ?_
      exact fin' _ hf 100 ls H locs dX5_told_100 rfl hP hD hS
    have hf := if_f w26_3 hf
    by_cases w26_4 : p1 = 4
    · have hf := if_t w26_4 hf
      refine lv_tableIn (off := 75) (tgt := 101) hx hb dX5_told_26 (by rw [w26_4]; decide) (by rw [w26_4]; decide) (by rw [w26_4]; rfl) (by decide) ?_
      refine lv_aload_n hx hb dX5_told_101 rfl (lv_at hl 0 rfl) ?_
      refine gf_X5_20 X hP 0 rfl rfl dX5_told_102 ?_
      refine gf_X5_80 X hP 1 rfl rfl dX5_told_105 ?_
      exact fin' _ hf 108 ls H locs dX5_told_108 rfl hP hD hS
    have hf := if_f w26_4 hf
    by_cases w26_5 : p1 = 5
    · have hf := if_t w26_5 hf
      refine lv_tableIn (off := 83) (tgt := 109) hx hb dX5_told_26 (by rw [w26_5]; decide) (by rw [w26_5]; decide) (by rw [w26_5]; rfl) (by decide) ?_
      refine lv_aload_n hx hb dX5_told_109 rfl (lv_at hl 0 rfl) ?_
      refine gf_X5_20 X hP 0 rfl rfl dX5_told_110 ?_
      refine lv_bipush (v := (42 : Int32)) hx hb dX5_told_113 (by decide) ?_
      obtain ⟨r115, hc115, hf⟩ := bd_some hf
      refine cV_I X hA hP hD hS hl.1 (c_X3_howMany l E a_t_table a_t_table_text (.ref a_t_table_weights) w_t_table_sightFrom w_t_table_sightOut x_t_table_places x_t_table_beginnings x_t_table_courtCount x_t_table_allowed x_t_table_sights x_t_table_kept x_t_table_text (42 : Int32) r115 hc115) 1 k_477 mw_X3_howMany hd_X3_howMany ⟨Nat.le_of_ble_eq_true rfl, Nat.le_of_ble_eq_true rfl⟩ [1, 3] [0, 2] [0, 2, 1, 3] rfl rfl (wr := [0, 2].filterMap (fun i => (wd_X5_told E a_t a_t_table a_t_table_weights a_t_table_text w_t_pad x_t_signs w_t_images w_t_pack w_t_row w_t_chances w_t_writing w_t_guess w_t_table_sightFrom w_t_table_sightOut x_t_table_places x_t_table_beginnings x_t_table_courtCount x_t_table_allowed x_t_table_sights x_t_table_kept x_t_table_weights x_t_table_text)[i]?)) rfl rfl rfl 3 0 rfl rfl rfl rfl rfl (Nat.le_of_ble_eq_true rfl) rfl (ws' := (wd_X5_told E a_t a_t_table a_t_table_weights a_t_table_text w_t_pad x_t_signs w_t_images w_t_pack w_t_row w_t_chances w_t_writing w_t_guess w_t_table_sightFrom w_t_table_sightOut x_t_table_places x_t_table_beginnings x_t_table_courtCount x_t_table_allowed x_t_table_sights x_t_table_kept x_t_table_weights x_t_table_text)) rfl ⟨Nat.le_of_ble_eq_true rfl, Nat.le_of_ble_eq_true rfl⟩ dX5_told_115 (fun H locs hP hD hS => ?_)
      exact fin' _ hf 118 ls H locs dX5_told_118 rfl hP hD hS
    have hf := if_f w26_5 hf
    by_cases w26_6 : p1 = 6
    · have hf := if_t w26_6 hf
      refine lv_tableIn (off := 93) (tgt := 119) hx hb dX5_told_26 (by rw [w26_6]; decide) (by rw [w26_6]; decide) (by rw [w26_6]; rfl) (by decide) ?_
      refine lv_aload_n hx hb dX5_told_119 rfl (lv_at hl 0 rfl) ?_
      refine gf_X5_20 X hP 0 rfl rfl dX5_told_120 ?_
      refine lv_bipush (v := (63 : Int32)) hx hb dX5_told_123 (by decide) ?_
      obtain ⟨r125, hc125, hf⟩ := bd_some hf
      refine cV_I X hA hP hD hS hl.1 (c_X3_howMany l E a_t_table a_t_table_text (.ref a_t_table_weights) w_t_table_sightFrom w_t_table_sightOut x_t_table_places x_t_table_beginnings x_t_table_courtCount x_t_table_allowed x_t_table_sights x_t_table_kept x_t_table_text (63 : Int32) r125 hc125) 1 k_477 mw_X3_howMany hd_X3_howMany ⟨Nat.le_of_ble_eq_true rfl, Nat.le_of_ble_eq_true rfl⟩ [1, 3] [0, 2] [0, 2, 1, 3] rfl rfl (wr := [0, 2].filterMap (fun i => (wd_X5_told E a_t a_t_table a_t_table_weights a_t_table_text w_t_pad x_t_signs w_t_images w_t_pack w_t_row w_t_chances w_t_writing w_t_guess w_t_table_sightFrom w_t_table_sightOut x_t_table_places x_t_table_beginnings x_t_table_courtCount x_t_table_allowed x_t_table_sights x_t_table_kept x_t_table_weights x_t_table_text)[i]?)) rfl rfl rfl 3 0 rfl rfl rfl rfl rfl (Nat.le_of_ble_eq_true rfl) rfl (ws' := (wd_X5_told E a_t a_t_table a_t_table_weights a_t_table_text w_t_pad x_t_signs w_t_images w_t_pack w_t_row w_t_chances w_t_writing w_t_guess w_t_table_sightFrom w_t_table_sightOut x_t_table_places x_t_table_beginnings x_t_table_courtCount x_t_table_allowed x_t_table_sights x_t_table_kept x_t_table_weights x_t_table_text)) rfl ⟨Nat.le_of_ble_eq_true rfl, Nat.le_of_ble_eq_true rfl⟩ dX5_told_125 (fun H locs hP hD hS => ?_)
      exact fin' _ hf 128 ls H locs dX5_told_128 rfl hP hD hS
    have hf := if_f w26_6 hf
    by_cases w26_7 : p1 = 7
    · have hf := if_t w26_7 hf
      refine lv_tableIn (off := 103) (tgt := 129) hx hb dX5_told_26 (by rw [w26_7]; decide) (by rw [w26_7]; decide) (by rw [w26_7]; rfl) (by decide) ?_
      refine lv_aload_n hx hb dX5_told_129 rfl (lv_at hl 0 rfl) ?_
      refine gf_X5_20 X hP 0 rfl rfl dX5_told_130 ?_
      refine gf_X5_186 X hP 1 rfl rfl dX5_told_133 ?_
      exact fin' _ hf 136 ls H locs dX5_told_136 rfl hP hD hS
    have hf := if_f w26_7 hf
    refine lv_tableOut (x := p1) (tgt := 137) hx hb dX5_told_26 (by have q0 := lv_neT (a := 0) w26_0 (by decide); have q1 := lv_neT (a := 1) w26_1 (by decide); have q2 := lv_neT (a := 2) w26_2 (by decide); have q3 := lv_neT (a := 3) w26_3 (by decide); have q4 := lv_neT (a := 4) w26_4 (by decide); have q5 := lv_neT (a := 5) w26_5 (by decide); have q6 := lv_neT (a := 6) w26_6 (by decide); have q7 := lv_neT (a := 7) w26_7 (by decide); omega) (by decide) ?_
    refine lv_bipush (v := (-2 : Int32)) hx hb dX5_told_137 (by decide) ?_
    exact fin' _ hf 139 ls H locs dX5_told_139 rfl hP hD hS
  have hS : va_S A s.heap s.heap [] := va_S.rf
  obtain ⟨H, hH9⟩ : ∃ z, z = s.heap := ⟨_, rfl⟩
  obtain ⟨locs, hL9⟩ : ∃ z : List Loc, z = [] := ⟨_, rfl⟩
  rw [← hL9]
  rw [← hL9] at hS
  have hP : va_P E.1 vwCl (wd_X5_told E a_t a_t_table a_t_table_weights a_t_table_text w_t_pad x_t_signs w_t_images w_t_pack w_t_row w_t_chances w_t_writing w_t_guess w_t_table_sightFrom w_t_table_sightOut x_t_table_places x_t_table_beginnings x_t_table_courtCount x_t_table_allowed x_t_table_sights x_t_table_kept x_t_table_weights x_t_table_text) H := by rw [hH9]; exact hP
  have hS : va_S A s.heap H locs := by rw [hH9]; exact hS
  suffices hgoal : W p l e (rmm 1 23) s m ([.ref a_t, .int p1] : List Value).toArray below meth c H locs 0 0 Q (F0 m 0 ls []) by rw [hH9] at hgoal; exact hgoal
  rw [f_X5_told] at hf
  refine lv_iload_n hx hb dX5_told_0 rfl (lv_at hl 1 rfl) ?_
  refine lv_bipush (v := (10 : Int32)) hx hb dX5_told_1 (by decide) ?_
  refine lv_icmp_le (tgt := 25) hx hb dX5_told_3 (by decide) (fun c_3 => ?_) (fun c_3 => ?_)
  · have hf := if_t c_3 hf
    exact L25  hf H locs ls hP hD hS (lv_sub hl [0, 1] rfl)
  · have hf := if_f c_3 hf
    refine lv_iload_n hx hb dX5_told_6 rfl (lv_at hl 1 rfl) ?_
    refine lv_bipush (v := (20 : Int32)) hx hb dX5_told_7 (by decide) ?_
    refine lv_icmp_gt (tgt := 25) hx hb dX5_told_9 (by decide) (fun c_9 => ?_) (fun c_9 => ?_)
    · have hf := if_t c_9 hf
      exact L25  hf H locs ls hP hD hS (lv_sub hl [0, 1] rfl)
    · have hf := if_f c_9 hf
      refine lv_aload_n hx hb dX5_told_12 rfl (lv_at hl 0 rfl) ?_
      refine gf_X5_20 X hP 0 rfl rfl dX5_told_13 ?_
      refine gf_X5_83 X hP 1 rfl rfl dX5_told_16 ?_
      refine lv_iload_n hx hb dX5_told_19 rfl (lv_at hl 1 rfl) ?_
      refine lv_bipush (v := (10 : Int32)) hx hb dX5_told_20 (by decide) ?_
      refine lv_isub hx hb dX5_told_22 ?_
      obtain ⟨hi23, hf⟩ := ck_some hf
      refine r_iald X hP 2 rfl hi23 dX5_told_23 ?_
      exact fin' _ hf 24 ls H locs dX5_told_24 rfl hP hD hS
